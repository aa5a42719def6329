noncomputable def FX10_does_j88 (v1 : Int32) (r1 : Int32) (vJ9 : MoT) : Option (MoT) :=
  nm (((Mo_b vJ9) + (216 : Int32)) + v1) fun x10 =>
  ix x10 9519 <|
  if r1 ≤ (Mo_all vJ9 (Int32.toNatClampNeg x10)) then (
    (FX10_goesOn vJ9 v1).bind fun r13 =>
    some r13
  ) else (
    some vJ9
  )
noncomputable def FX10_does (MO : MoT) (v1 : Int32) : Option (MoT) :=
  (FX10_numberNow MO v1).bind fun r1 =>
  (FX10_sortNow MO v1).bind fun r2 =>
  if r2 = (0 : Int32) ∨ r2 = (7 : Int32) then (
    nm (((Mo_b MO) + (216 : Int32)) + v1) fun x4 =>
    ix x4 9519 <|
    ix (((Mo_b MO) + (216 : Int32)) + v1) 9519 <|
    nm (sMo_all MO (upd (Mo_all MO) (Int32.toNatClampNeg (((Mo_b MO) + (216 : Int32)) + v1)) ((Mo_all MO (Int32.toNatClampNeg x4)) + (1 : Int32)))) fun MO7 =>
    (FX10_sortNow MO7 v1).bind fun r8 =>
    if r8 = 0 then (
      (FX10_beats MO7 v1).bind fun r15 =>
      FX10_does_j88 v1 r1 r15
    ) else (
      FX10_does_j88 v1 r1 MO7
    )
  ) else (
  if r2 = (1 : Int32) then (
    (FX10_canBe MO v1).bind fun r17 =>
    if (bI r17) = 0 then (
      some MO
    ) else (
      ix (((Mo_b MO) + (240 : Int32)) + r1) 9519 <|
      nm (sMo_all MO (upd (Mo_all MO) (Int32.toNatClampNeg (((Mo_b MO) + (240 : Int32)) + r1)) v1)) fun MO20 =>
      (FX10_goesOn MO20 v1).bind fun r21 =>
      some r21
    )
  ) else (
  if r2 = (2 : Int32) then (
    nm (((Mo_b MO) + (240 : Int32)) + r1) fun x23 =>
    ix x23 9519 <|
    if (Mo_all MO (Int32.toNatClampNeg x23)) = v1 then (
      ix (((Mo_b MO) + (240 : Int32)) + r1) 9519 <|
      nm (sMo_all MO (upd (Mo_all MO) (Int32.toNatClampNeg (((Mo_b MO) + (240 : Int32)) + r1)) (-1 : Int32))) fun MO28 =>
      (FX10_goesOn MO28 v1).bind fun r29 =>
      some r29
    ) else (
      (FX10_goesOn MO v1).bind fun r26 =>
      some r26
    )
  ) else (
  if r2 = (3 : Int32) then (
    (FX10_canBe MO v1).bind fun r31 =>
    if (bI r31) = 0 then (
      some MO
    ) else (
      nm (((Mo_b MO) + (246 : Int32)) + r1) fun x33 =>
      ix x33 9519 <|
      ix (((Mo_b MO) + (246 : Int32)) + r1) 9519 <|
      nm (sMo_all MO (upd (Mo_all MO) (Int32.toNatClampNeg (((Mo_b MO) + (246 : Int32)) + r1)) ((Mo_all MO (Int32.toNatClampNeg x33)) + (1 : Int32)))) fun MO36 =>
      (FX10_goesOn MO36 v1).bind fun r37 =>
      some r37
    )
  ) else (
  if r2 = (4 : Int32) then (
    (FX10_canBe MO v1).bind fun r39 =>
    if (bI r39) = 0 then (
      some MO
    ) else (
      nm (((Mo_b MO) + (246 : Int32)) + r1) fun x41 =>
      ix x41 9519 <|
      ix (((Mo_b MO) + (246 : Int32)) + r1) 9519 <|
      nm (sMo_all MO (upd (Mo_all MO) (Int32.toNatClampNeg (((Mo_b MO) + (246 : Int32)) + r1)) ((Mo_all MO (Int32.toNatClampNeg x41)) - (1 : Int32)))) fun MO44 =>
      (FX10_goesOn MO44 v1).bind fun r45 =>
      some r45
    )
  ) else (
  if r2 = (5 : Int32) then (
    (FX10_messageAt MO r1 v1).bind fun r47 =>
    ix r47 9519 <|
    ix r47 9519 <|
    nm (sMo_all MO (upd (Mo_all MO) (Int32.toNatClampNeg r47) ((Mo_all MO (Int32.toNatClampNeg r47)) + (1 : Int32)))) fun MO50 =>
    (FX10_goesOn MO50 v1).bind fun r51 =>
    some r51
  ) else (
  if r2 = (6 : Int32) then (
    (FX10_canBe MO v1).bind fun r53 =>
    if (bI r53) = 0 then (
      some MO
    ) else (
      (FX10_messageAt MO v1 r1).bind fun r55 =>
      ix r55 9519 <|
      ix r55 9519 <|
      nm (sMo_all MO (upd (Mo_all MO) (Int32.toNatClampNeg r55) ((Mo_all MO (Int32.toNatClampNeg r55)) - (1 : Int32)))) fun MO58 =>
      (FX10_goesOn MO58 v1).bind fun r59 =>
      some r59
    )
  ) else (
    (FX10_goesOn MO v1).bind fun r60 =>
    some r60
  )))))))
set_option maxHeartbeats 4000000 in
set_option maxRecDepth 100000 in
theorem ctX10_does {l : Launch} {D : va_G} {k : Nat → ClassId} {Z : ZT} (hZ : ZOK Z) (ot : Nat) (aMO : Nat → Nat) {MO : MoT} {v1 : Int32} {q : MoT} (hf : FX10_does MO v1 = some q) :
    CM l D k Z yX10_does cX10_does 3 none 3 65 [.ref ot, .int v1] none (kMo k ot aMO (MO)) (kMo k ot aMO (q)) := by
  refine CM.start hZ (by decide) (Nat.le_of_ble_eq_true rfl) ?_
  intro p e s m below meth c ls X hl G
  have hx := X.1
  have hb := X.2.1
  have hl : lv_has ls 3 [(0, .ref ot), (1, .int v1)] := hl
  unfold FX10_does at hf
  refine lv_aload_n hx hb dX10_does_0 rfl (lv_at hl 0 rfl) ?_
  refine lv_iload_n hx hb dX10_does_1 rfl (lv_at hl 1 rfl) ?_
  obtain ⟨r1, hcr1, hf⟩ := bd_some hf
  refine p_R (st1 := [.int r1]) (run_V (rest := []) X (ctX10_numberNow hZ ot aMO hcr1) mk_X10_numberNow ml_X10_68 ⟨(Nat.le_of_ble_eq_true rfl), (Nat.le_of_ble_eq_true rfl)⟩ G [0, 1, 2, 3, 4, 5, 6, 7] rfl rfl 0 rfl rfl rfl hl.1 rfl (Nat.le_of_ble_eq_true rfl) dX10_does_2 ⟨Nat.zero_le _, Nat.zero_le _⟩) rfl ?_
  refine lv_istore_n (lv' := [(2, .int r1), (0, .ref ot), (1, .int v1)]) hx hb dX10_does_5 rfl hl (by decide) rfl (fun ls hl => ?_)
  refine lv_aload_n hx hb dX10_does_6 rfl (lv_at hl 1 rfl) ?_
  refine lv_iload_n hx hb dX10_does_7 rfl (lv_at hl 2 rfl) ?_
  obtain ⟨r2, hcr2, hf⟩ := bd_some hf
  refine p_R (st1 := [.int r2]) (run_V (rest := []) X (ctX10_sortNow hZ ot aMO hcr2) mk_X10_sortNow ml_X10_62 ⟨(Nat.le_of_ble_eq_true rfl), (Nat.le_of_ble_eq_true rfl)⟩ G [0, 1, 2, 3, 4, 5, 6, 7] rfl rfl 0 rfl rfl rfl hl.1 rfl (Nat.le_of_ble_eq_true rfl) dX10_does_8 ⟨Nat.zero_le _, Nat.zero_le _⟩) rfl ?_
  by_cases c3 : r2 = (0 : Int32) ∨ r2 = (7 : Int32)
  · replace hf := if_t hf c3
    refine r_tsw X (tgt := 56) dX10_does_11 (by rcases c3 with c3 | c3 <;> (rw [c3]; decide +kernel)) (by rcases c3 with c3 | c3 <;> (rw [c3]; decide +kernel)) ?_
    refine lv_aload_n hx hb dX10_does_56 rfl (lv_at hl 1 rfl) ?_
    refine r_get X inw_X10 G 0 rfl rfl 0 (by decide) fl_X10_7 (v := .ref (aMO 0)) rfl dX10_does_57 ?_
    refine lv_aload_n hx hb dX10_does_60 rfl (lv_at hl 1 rfl) ?_
    refine r_get X inw_X10 G 0 rfl rfl 7 (by decide) fl_X10_40 (v := .int (Mo_b MO)) rfl dX10_does_61 ?_
    refine lv_sipush (v := 216) hx hb dX10_does_64 (by decide) ?_
    refine lv_iadd hx hb dX10_does_67 ?_
    refine lv_iload_n hx hb dX10_does_68 rfl (lv_at hl 2 rfl) ?_
    refine lv_iadd hx hb dX10_does_69 ?_
    refine lv_dup2_11 hx hb dX10_does_70 rfl rfl ?_
    obtain ⟨x4, ex4, hf⟩ := nm_some hf
    refine r_top (congrArg Value.int ex4) ?_
    obtain ⟨h5, hf⟩ := ix_some hf
    refine r_iald X G 1 rfl h5 dX10_does_71 ?_
    refine lv_iconst (v := 1) hx hb dX10_does_72 (by decide) ?_
    refine lv_iadd hx hb dX10_does_73 ?_
    obtain ⟨h6, hf⟩ := ix_some hf
    obtain ⟨MO7, eMO7, hf⟩ := nm_some hf
    refine r_iast X G 1 rfl h6 (ws' := kMo k ot aMO (MO7)) (by subst eMO7; rfl) dX10_does_74 (fun H locs G => ?_)
    refine lv_aload_n hx hb dX10_does_75 rfl (lv_at hl 1 rfl) ?_
    refine lv_iload_n hx hb dX10_does_76 rfl (lv_at hl 2 rfl) ?_
    obtain ⟨r8, hcr8, hf⟩ := bd_some hf
    refine p_R (st1 := [.int r8]) (run_V (rest := []) X (ctX10_sortNow hZ ot aMO hcr8) mk_X10_sortNow ml_X10_62 ⟨(Nat.le_of_ble_eq_true rfl), (Nat.le_of_ble_eq_true rfl)⟩ G [0, 1, 2, 3, 4, 5, 6, 7] rfl rfl 0 rfl rfl rfl hl.1 rfl (Nat.le_of_ble_eq_true rfl) dX10_does_77 ⟨Nat.zero_le _, Nat.zero_le _⟩) rfl ?_
    have JJ9 : ∀ (vJ9 : MoT) (H : Heap) (locs : List Loc) (ls : Array Slot), Wo D (wA (kMo k ot aMO (MO))) s.heap (kMo k ot aMO (vJ9)) H locs → lv_has ls 3 [(0, .ref ot), (1, .int v1), (2, .int r1)] → FX10_does_j88 v1 r1 vJ9 = some q → W p l e (rmz 3 65) s m [.ref ot, .int v1].toArray below meth c H locs 0 0 (MQ below (Qm D none (kMo k ot aMO (MO)) (kMo k ot aMO (q))) [.ref ot, .int v1].toArray s 0 0 (wA (kMo k ot aMO (MO)))) (F0 m 88 ls []) := by
      intro vJ9 H locs ls G hl hf
      unfold FX10_does_j88 at hf
      refine lv_aload_n hx hb dX10_does_88 rfl (lv_at hl 0 rfl) ?_
      refine r_get X inw_X10 G 0 rfl rfl 0 (by decide) fl_X10_7 (v := .ref (aMO 0)) rfl dX10_does_89 ?_
      refine lv_aload_n hx hb dX10_does_92 rfl (lv_at hl 0 rfl) ?_
      refine r_get X inw_X10 G 0 rfl rfl 7 (by decide) fl_X10_40 (v := .int (Mo_b vJ9)) rfl dX10_does_93 ?_
      refine lv_sipush (v := 216) hx hb dX10_does_96 (by decide) ?_
      refine lv_iadd hx hb dX10_does_99 ?_
      refine lv_iload_n hx hb dX10_does_100 rfl (lv_at hl 1 rfl) ?_
      refine lv_iadd hx hb dX10_does_101 ?_
      obtain ⟨x10, ex10, hf⟩ := nm_some hf
      refine r_top (congrArg Value.int ex10) ?_
      obtain ⟨h11, hf⟩ := ix_some hf
      refine r_iald X G 1 rfl h11 dX10_does_102 ?_
      refine lv_iload_n hx hb dX10_does_103 rfl (lv_at hl 2 rfl) ?_
      refine lv_icmp_ge (tgt := 281) hx hb dX10_does_104 (by decide) (fun c12 => ?_) (fun c12 => ?_)
      · replace hf := if_t hf c12
        refine lv_aload_n hx hb dX10_does_281 rfl (lv_at hl 0 rfl) ?_
        refine lv_iload_n hx hb dX10_does_282 rfl (lv_at hl 1 rfl) ?_
        obtain ⟨r13, hcr13, hf⟩ := bd_some hf
        refine p_N (st1 := []) (wr := []) (ws' := kMo k ot aMO (r13)) (run_V (rest := []) X (ctX10_goesOn hZ ot aMO hcr13) mk_X10_goesOn ml_X10_78 ⟨(Nat.le_of_ble_eq_true rfl), (Nat.le_of_ble_eq_true rfl)⟩ G [0, 1, 2, 3, 4, 5, 6, 7] rfl rfl 0 rfl rfl rfl hl.1 rfl (Nat.le_of_ble_eq_true rfl) dX10_does_283 ⟨Nat.zero_le _, Nat.zero_le _⟩) rfl G [0, 1, 2, 3, 4, 5, 6, 7] [] 8 rfl rfl rfl rfl rfl (by decide) (by decide) rfl (fun H locs G => ?_)
        cases hf
        exact e_mv X G dX10_does_286
      · replace hf := if_f hf c12
        cases hf
        exact e_mv X G dX10_does_107
    refine lv_if_ne (tgt := 88) hx hb dX10_does_80 (by decide) (fun c14 => ?_) (fun c14 => ?_)
    · replace hf := if_f hf c14
      exact JJ9 MO7 _ _ _ G (lv_sub hl [1, 2, 0] rfl) hf
    · replace hf := if_t hf c14
      refine lv_aload_n hx hb dX10_does_83 rfl (lv_at hl 1 rfl) ?_
      refine lv_iload_n hx hb dX10_does_84 rfl (lv_at hl 2 rfl) ?_
      obtain ⟨r15, hcr15, hf⟩ := bd_some hf
      refine p_N (st1 := []) (wr := []) (ws' := kMo k ot aMO (r15)) (run_V (rest := []) X (ctX10_beats hZ ot aMO hcr15) mk_X10_beats ml_X10_65 ⟨(Nat.le_of_ble_eq_true rfl), (Nat.le_of_ble_eq_true rfl)⟩ G [0, 1, 2, 3, 4, 5, 6, 7] rfl rfl 0 rfl rfl rfl hl.1 rfl (Nat.le_of_ble_eq_true rfl) dX10_does_85 ⟨Nat.zero_le _, Nat.zero_le _⟩) rfl G [0, 1, 2, 3, 4, 5, 6, 7] [] 8 rfl rfl rfl rfl rfl (by decide) (by decide) rfl (fun H locs G => ?_)
      exact JJ9 r15 _ _ _ G (lv_sub hl [1, 2, 0] rfl) hf
  replace hf := if_f hf c3
  by_cases c16 : r2 = (1 : Int32)
  · replace hf := if_t hf c16
    refine r_tsw X (tgt := 108) dX10_does_11 (by rw [c16]; decide +kernel) (by rw [c16]; decide +kernel) ?_
    refine lv_aload_n hx hb dX10_does_108 rfl (lv_at hl 1 rfl) ?_
    refine lv_iload_n hx hb dX10_does_109 rfl (lv_at hl 2 rfl) ?_
    obtain ⟨r17, hcr17, hf⟩ := bd_some hf
    refine p_R (st1 := [.int (bI r17)]) (run_V (rest := []) X (ctX10_canBe hZ ot aMO hcr17) mk_X10_canBe ml_X10_74 ⟨(Nat.le_of_ble_eq_true rfl), (Nat.le_of_ble_eq_true rfl)⟩ G [0, 1, 2, 3, 4, 5, 6, 7] rfl rfl 0 rfl rfl rfl hl.1 rfl (Nat.le_of_ble_eq_true rfl) dX10_does_110 ⟨Nat.zero_le _, Nat.zero_le _⟩) rfl ?_
    refine lv_if_ne (tgt := 117) hx hb dX10_does_113 (by decide) (fun c18 => ?_) (fun c18 => ?_)
    · replace hf := if_f hf c18
      refine lv_aload_n hx hb dX10_does_117 rfl (lv_at hl 1 rfl) ?_
      refine r_get X inw_X10 G 0 rfl rfl 0 (by decide) fl_X10_7 (v := .ref (aMO 0)) rfl dX10_does_118 ?_
      refine lv_aload_n hx hb dX10_does_121 rfl (lv_at hl 1 rfl) ?_
      refine r_get X inw_X10 G 0 rfl rfl 7 (by decide) fl_X10_40 (v := .int (Mo_b MO)) rfl dX10_does_122 ?_
      refine lv_sipush (v := 240) hx hb dX10_does_125 (by decide) ?_
      refine lv_iadd hx hb dX10_does_128 ?_
      refine lv_iload_n hx hb dX10_does_129 rfl (lv_at hl 0 rfl) ?_
      refine lv_iadd hx hb dX10_does_130 ?_
      refine lv_iload_n hx hb dX10_does_131 rfl (lv_at hl 2 rfl) ?_
      obtain ⟨h19, hf⟩ := ix_some hf
      obtain ⟨MO20, eMO20, hf⟩ := nm_some hf
      refine r_iast X G 1 rfl h19 (ws' := kMo k ot aMO (MO20)) (by subst eMO20; rfl) dX10_does_132 (fun H locs G => ?_)
      refine lv_goto (tgt := 281) hx hb dX10_does_133 (by decide) ?_
      refine lv_aload_n hx hb dX10_does_281 rfl (lv_at hl 1 rfl) ?_
      refine lv_iload_n hx hb dX10_does_282 rfl (lv_at hl 2 rfl) ?_
      obtain ⟨r21, hcr21, hf⟩ := bd_some hf
      refine p_N (st1 := []) (wr := []) (ws' := kMo k ot aMO (r21)) (run_V (rest := []) X (ctX10_goesOn hZ ot aMO hcr21) mk_X10_goesOn ml_X10_78 ⟨(Nat.le_of_ble_eq_true rfl), (Nat.le_of_ble_eq_true rfl)⟩ G [0, 1, 2, 3, 4, 5, 6, 7] rfl rfl 0 rfl rfl rfl hl.1 rfl (Nat.le_of_ble_eq_true rfl) dX10_does_283 ⟨Nat.zero_le _, Nat.zero_le _⟩) rfl G [0, 1, 2, 3, 4, 5, 6, 7] [] 8 rfl rfl rfl rfl rfl (by decide) (by decide) rfl (fun H locs G => ?_)
      cases hf
      exact e_mv X G dX10_does_286
    · replace hf := if_t hf c18
      cases hf
      exact e_mv X G dX10_does_116
  replace hf := if_f hf c16
  by_cases c22 : r2 = (2 : Int32)
  · replace hf := if_t hf c22
    refine r_tsw X (tgt := 136) dX10_does_11 (by rw [c22]; decide +kernel) (by rw [c22]; decide +kernel) ?_
    refine lv_aload_n hx hb dX10_does_136 rfl (lv_at hl 1 rfl) ?_
    refine r_get X inw_X10 G 0 rfl rfl 0 (by decide) fl_X10_7 (v := .ref (aMO 0)) rfl dX10_does_137 ?_
    refine lv_aload_n hx hb dX10_does_140 rfl (lv_at hl 1 rfl) ?_
    refine r_get X inw_X10 G 0 rfl rfl 7 (by decide) fl_X10_40 (v := .int (Mo_b MO)) rfl dX10_does_141 ?_
    refine lv_sipush (v := 240) hx hb dX10_does_144 (by decide) ?_
    refine lv_iadd hx hb dX10_does_147 ?_
    refine lv_iload_n hx hb dX10_does_148 rfl (lv_at hl 0 rfl) ?_
    refine lv_iadd hx hb dX10_does_149 ?_
    obtain ⟨x23, ex23, hf⟩ := nm_some hf
    refine r_top (congrArg Value.int ex23) ?_
    obtain ⟨h24, hf⟩ := ix_some hf
    refine r_iald X G 1 rfl h24 dX10_does_150 ?_
    refine lv_iload_n hx hb dX10_does_151 rfl (lv_at hl 2 rfl) ?_
    refine lv_icmp_ne (tgt := 281) hx hb dX10_does_152 (by decide) (fun c25 => ?_) (fun c25 => ?_)
    · replace hf := if_f hf c25
      refine lv_aload_n hx hb dX10_does_281 rfl (lv_at hl 1 rfl) ?_
      refine lv_iload_n hx hb dX10_does_282 rfl (lv_at hl 2 rfl) ?_
      obtain ⟨r26, hcr26, hf⟩ := bd_some hf
      refine p_N (st1 := []) (wr := []) (ws' := kMo k ot aMO (r26)) (run_V (rest := []) X (ctX10_goesOn hZ ot aMO hcr26) mk_X10_goesOn ml_X10_78 ⟨(Nat.le_of_ble_eq_true rfl), (Nat.le_of_ble_eq_true rfl)⟩ G [0, 1, 2, 3, 4, 5, 6, 7] rfl rfl 0 rfl rfl rfl hl.1 rfl (Nat.le_of_ble_eq_true rfl) dX10_does_283 ⟨Nat.zero_le _, Nat.zero_le _⟩) rfl G [0, 1, 2, 3, 4, 5, 6, 7] [] 8 rfl rfl rfl rfl rfl (by decide) (by decide) rfl (fun H locs G => ?_)
      cases hf
      exact e_mv X G dX10_does_286
    · replace hf := if_t hf c25
      refine lv_aload_n hx hb dX10_does_155 rfl (lv_at hl 1 rfl) ?_
      refine r_get X inw_X10 G 0 rfl rfl 0 (by decide) fl_X10_7 (v := .ref (aMO 0)) rfl dX10_does_156 ?_
      refine lv_aload_n hx hb dX10_does_159 rfl (lv_at hl 1 rfl) ?_
      refine r_get X inw_X10 G 0 rfl rfl 7 (by decide) fl_X10_40 (v := .int (Mo_b MO)) rfl dX10_does_160 ?_
      refine lv_sipush (v := 240) hx hb dX10_does_163 (by decide) ?_
      refine lv_iadd hx hb dX10_does_166 ?_
      refine lv_iload_n hx hb dX10_does_167 rfl (lv_at hl 0 rfl) ?_
      refine lv_iadd hx hb dX10_does_168 ?_
      refine lv_iconst (v := -1) hx hb dX10_does_169 (by decide) ?_
      obtain ⟨h27, hf⟩ := ix_some hf
      obtain ⟨MO28, eMO28, hf⟩ := nm_some hf
      refine r_iast X G 1 rfl h27 (ws' := kMo k ot aMO (MO28)) (by subst eMO28; rfl) dX10_does_170 (fun H locs G => ?_)
      refine lv_goto (tgt := 281) hx hb dX10_does_171 (by decide) ?_
      refine lv_aload_n hx hb dX10_does_281 rfl (lv_at hl 1 rfl) ?_
      refine lv_iload_n hx hb dX10_does_282 rfl (lv_at hl 2 rfl) ?_
      obtain ⟨r29, hcr29, hf⟩ := bd_some hf
      refine p_N (st1 := []) (wr := []) (ws' := kMo k ot aMO (r29)) (run_V (rest := []) X (ctX10_goesOn hZ ot aMO hcr29) mk_X10_goesOn ml_X10_78 ⟨(Nat.le_of_ble_eq_true rfl), (Nat.le_of_ble_eq_true rfl)⟩ G [0, 1, 2, 3, 4, 5, 6, 7] rfl rfl 0 rfl rfl rfl hl.1 rfl (Nat.le_of_ble_eq_true rfl) dX10_does_283 ⟨Nat.zero_le _, Nat.zero_le _⟩) rfl G [0, 1, 2, 3, 4, 5, 6, 7] [] 8 rfl rfl rfl rfl rfl (by decide) (by decide) rfl (fun H locs G => ?_)
      cases hf
      exact e_mv X G dX10_does_286
  replace hf := if_f hf c22
  by_cases c30 : r2 = (3 : Int32)
  · replace hf := if_t hf c30
    refine r_tsw X (tgt := 174) dX10_does_11 (by rw [c30]; decide +kernel) (by rw [c30]; decide +kernel) ?_
    refine lv_aload_n hx hb dX10_does_174 rfl (lv_at hl 1 rfl) ?_
    refine lv_iload_n hx hb dX10_does_175 rfl (lv_at hl 2 rfl) ?_
    obtain ⟨r31, hcr31, hf⟩ := bd_some hf
    refine p_R (st1 := [.int (bI r31)]) (run_V (rest := []) X (ctX10_canBe hZ ot aMO hcr31) mk_X10_canBe ml_X10_74 ⟨(Nat.le_of_ble_eq_true rfl), (Nat.le_of_ble_eq_true rfl)⟩ G [0, 1, 2, 3, 4, 5, 6, 7] rfl rfl 0 rfl rfl rfl hl.1 rfl (Nat.le_of_ble_eq_true rfl) dX10_does_176 ⟨Nat.zero_le _, Nat.zero_le _⟩) rfl ?_
    refine lv_if_ne (tgt := 183) hx hb dX10_does_179 (by decide) (fun c32 => ?_) (fun c32 => ?_)
    · replace hf := if_f hf c32
      refine lv_aload_n hx hb dX10_does_183 rfl (lv_at hl 1 rfl) ?_
      refine r_get X inw_X10 G 0 rfl rfl 0 (by decide) fl_X10_7 (v := .ref (aMO 0)) rfl dX10_does_184 ?_
      refine lv_aload_n hx hb dX10_does_187 rfl (lv_at hl 1 rfl) ?_
      refine r_get X inw_X10 G 0 rfl rfl 7 (by decide) fl_X10_40 (v := .int (Mo_b MO)) rfl dX10_does_188 ?_
      refine lv_sipush (v := 246) hx hb dX10_does_191 (by decide) ?_
      refine lv_iadd hx hb dX10_does_194 ?_
      refine lv_iload_n hx hb dX10_does_195 rfl (lv_at hl 0 rfl) ?_
      refine lv_iadd hx hb dX10_does_196 ?_
      refine lv_dup2_11 hx hb dX10_does_197 rfl rfl ?_
      obtain ⟨x33, ex33, hf⟩ := nm_some hf
      refine r_top (congrArg Value.int ex33) ?_
      obtain ⟨h34, hf⟩ := ix_some hf
      refine r_iald X G 1 rfl h34 dX10_does_198 ?_
      refine lv_iconst (v := 1) hx hb dX10_does_199 (by decide) ?_
      refine lv_iadd hx hb dX10_does_200 ?_
      obtain ⟨h35, hf⟩ := ix_some hf
      obtain ⟨MO36, eMO36, hf⟩ := nm_some hf
      refine r_iast X G 1 rfl h35 (ws' := kMo k ot aMO (MO36)) (by subst eMO36; rfl) dX10_does_201 (fun H locs G => ?_)
      refine lv_goto (tgt := 281) hx hb dX10_does_202 (by decide) ?_
      refine lv_aload_n hx hb dX10_does_281 rfl (lv_at hl 1 rfl) ?_
      refine lv_iload_n hx hb dX10_does_282 rfl (lv_at hl 2 rfl) ?_
      obtain ⟨r37, hcr37, hf⟩ := bd_some hf
      refine p_N (st1 := []) (wr := []) (ws' := kMo k ot aMO (r37)) (run_V (rest := []) X (ctX10_goesOn hZ ot aMO hcr37) mk_X10_goesOn ml_X10_78 ⟨(Nat.le_of_ble_eq_true rfl), (Nat.le_of_ble_eq_true rfl)⟩ G [0, 1, 2, 3, 4, 5, 6, 7] rfl rfl 0 rfl rfl rfl hl.1 rfl (Nat.le_of_ble_eq_true rfl) dX10_does_283 ⟨Nat.zero_le _, Nat.zero_le _⟩) rfl G [0, 1, 2, 3, 4, 5, 6, 7] [] 8 rfl rfl rfl rfl rfl (by decide) (by decide) rfl (fun H locs G => ?_)
      cases hf
      exact e_mv X G dX10_does_286
    · replace hf := if_t hf c32
      cases hf
      exact e_mv X G dX10_does_182
  replace hf := if_f hf c30
  by_cases c38 : r2 = (4 : Int32)
  · replace hf := if_t hf c38
    refine r_tsw X (tgt := 205) dX10_does_11 (by rw [c38]; decide +kernel) (by rw [c38]; decide +kernel) ?_
    refine lv_aload_n hx hb dX10_does_205 rfl (lv_at hl 1 rfl) ?_
    refine lv_iload_n hx hb dX10_does_206 rfl (lv_at hl 2 rfl) ?_
    obtain ⟨r39, hcr39, hf⟩ := bd_some hf
    refine p_R (st1 := [.int (bI r39)]) (run_V (rest := []) X (ctX10_canBe hZ ot aMO hcr39) mk_X10_canBe ml_X10_74 ⟨(Nat.le_of_ble_eq_true rfl), (Nat.le_of_ble_eq_true rfl)⟩ G [0, 1, 2, 3, 4, 5, 6, 7] rfl rfl 0 rfl rfl rfl hl.1 rfl (Nat.le_of_ble_eq_true rfl) dX10_does_207 ⟨Nat.zero_le _, Nat.zero_le _⟩) rfl ?_
    refine lv_if_ne (tgt := 214) hx hb dX10_does_210 (by decide) (fun c40 => ?_) (fun c40 => ?_)
    · replace hf := if_f hf c40
      refine lv_aload_n hx hb dX10_does_214 rfl (lv_at hl 1 rfl) ?_
      refine r_get X inw_X10 G 0 rfl rfl 0 (by decide) fl_X10_7 (v := .ref (aMO 0)) rfl dX10_does_215 ?_
      refine lv_aload_n hx hb dX10_does_218 rfl (lv_at hl 1 rfl) ?_
      refine r_get X inw_X10 G 0 rfl rfl 7 (by decide) fl_X10_40 (v := .int (Mo_b MO)) rfl dX10_does_219 ?_
      refine lv_sipush (v := 246) hx hb dX10_does_222 (by decide) ?_
      refine lv_iadd hx hb dX10_does_225 ?_
      refine lv_iload_n hx hb dX10_does_226 rfl (lv_at hl 0 rfl) ?_
      refine lv_iadd hx hb dX10_does_227 ?_
      refine lv_dup2_11 hx hb dX10_does_228 rfl rfl ?_
      obtain ⟨x41, ex41, hf⟩ := nm_some hf
      refine r_top (congrArg Value.int ex41) ?_
      obtain ⟨h42, hf⟩ := ix_some hf
      refine r_iald X G 1 rfl h42 dX10_does_229 ?_
      refine lv_iconst (v := 1) hx hb dX10_does_230 (by decide) ?_
      refine lv_isub hx hb dX10_does_231 ?_
      obtain ⟨h43, hf⟩ := ix_some hf
      obtain ⟨MO44, eMO44, hf⟩ := nm_some hf
      refine r_iast X G 1 rfl h43 (ws' := kMo k ot aMO (MO44)) (by subst eMO44; rfl) dX10_does_232 (fun H locs G => ?_)
      refine lv_goto (tgt := 281) hx hb dX10_does_233 (by decide) ?_
      refine lv_aload_n hx hb dX10_does_281 rfl (lv_at hl 1 rfl) ?_
      refine lv_iload_n hx hb dX10_does_282 rfl (lv_at hl 2 rfl) ?_
      obtain ⟨r45, hcr45, hf⟩ := bd_some hf
      refine p_N (st1 := []) (wr := []) (ws' := kMo k ot aMO (r45)) (run_V (rest := []) X (ctX10_goesOn hZ ot aMO hcr45) mk_X10_goesOn ml_X10_78 ⟨(Nat.le_of_ble_eq_true rfl), (Nat.le_of_ble_eq_true rfl)⟩ G [0, 1, 2, 3, 4, 5, 6, 7] rfl rfl 0 rfl rfl rfl hl.1 rfl (Nat.le_of_ble_eq_true rfl) dX10_does_283 ⟨Nat.zero_le _, Nat.zero_le _⟩) rfl G [0, 1, 2, 3, 4, 5, 6, 7] [] 8 rfl rfl rfl rfl rfl (by decide) (by decide) rfl (fun H locs G => ?_)
      cases hf
      exact e_mv X G dX10_does_286
    · replace hf := if_t hf c40
      cases hf
      exact e_mv X G dX10_does_213
  replace hf := if_f hf c38
  by_cases c46 : r2 = (5 : Int32)
  · replace hf := if_t hf c46
    refine r_tsw X (tgt := 236) dX10_does_11 (by rw [c46]; decide +kernel) (by rw [c46]; decide +kernel) ?_
    refine lv_aload_n hx hb dX10_does_236 rfl (lv_at hl 1 rfl) ?_
    refine r_get X inw_X10 G 0 rfl rfl 0 (by decide) fl_X10_7 (v := .ref (aMO 0)) rfl dX10_does_237 ?_
    refine lv_aload_n hx hb dX10_does_240 rfl (lv_at hl 1 rfl) ?_
    refine lv_iload_n hx hb dX10_does_241 rfl (lv_at hl 0 rfl) ?_
    refine lv_iload_n hx hb dX10_does_242 rfl (lv_at hl 2 rfl) ?_
    obtain ⟨r47, hcr47, hf⟩ := bd_some hf
    refine p_R (st1 := [.int r47, .ref (aMO 0)]) (run_V (rest := [.ref (aMO 0)]) X (ctX10_messageAt hZ ot aMO hcr47) mk_X10_messageAt ml_X10_71 ⟨(Nat.le_of_ble_eq_true rfl), (Nat.le_of_ble_eq_true rfl)⟩ G [0, 1, 2, 3, 4, 5, 6, 7] rfl rfl 0 rfl rfl rfl hl.1 rfl (Nat.le_of_ble_eq_true rfl) dX10_does_243 ⟨Nat.zero_le _, Nat.zero_le _⟩) rfl ?_
    refine lv_dup2_11 hx hb dX10_does_246 rfl rfl ?_
    obtain ⟨h48, hf⟩ := ix_some hf
    refine r_iald X G 1 rfl h48 dX10_does_247 ?_
    refine lv_iconst (v := 1) hx hb dX10_does_248 (by decide) ?_
    refine lv_iadd hx hb dX10_does_249 ?_
    obtain ⟨h49, hf⟩ := ix_some hf
    obtain ⟨MO50, eMO50, hf⟩ := nm_some hf
    refine r_iast X G 1 rfl h49 (ws' := kMo k ot aMO (MO50)) (by subst eMO50; rfl) dX10_does_250 (fun H locs G => ?_)
    refine lv_goto (tgt := 281) hx hb dX10_does_251 (by decide) ?_
    refine lv_aload_n hx hb dX10_does_281 rfl (lv_at hl 1 rfl) ?_
    refine lv_iload_n hx hb dX10_does_282 rfl (lv_at hl 2 rfl) ?_
    obtain ⟨r51, hcr51, hf⟩ := bd_some hf
    refine p_N (st1 := []) (wr := []) (ws' := kMo k ot aMO (r51)) (run_V (rest := []) X (ctX10_goesOn hZ ot aMO hcr51) mk_X10_goesOn ml_X10_78 ⟨(Nat.le_of_ble_eq_true rfl), (Nat.le_of_ble_eq_true rfl)⟩ G [0, 1, 2, 3, 4, 5, 6, 7] rfl rfl 0 rfl rfl rfl hl.1 rfl (Nat.le_of_ble_eq_true rfl) dX10_does_283 ⟨Nat.zero_le _, Nat.zero_le _⟩) rfl G [0, 1, 2, 3, 4, 5, 6, 7] [] 8 rfl rfl rfl rfl rfl (by decide) (by decide) rfl (fun H locs G => ?_)
    cases hf
    exact e_mv X G dX10_does_286
  replace hf := if_f hf c46
  by_cases c52 : r2 = (6 : Int32)
  · replace hf := if_t hf c52
    refine r_tsw X (tgt := 254) dX10_does_11 (by rw [c52]; decide +kernel) (by rw [c52]; decide +kernel) ?_
    refine lv_aload_n hx hb dX10_does_254 rfl (lv_at hl 1 rfl) ?_
    refine lv_iload_n hx hb dX10_does_255 rfl (lv_at hl 2 rfl) ?_
    obtain ⟨r53, hcr53, hf⟩ := bd_some hf
    refine p_R (st1 := [.int (bI r53)]) (run_V (rest := []) X (ctX10_canBe hZ ot aMO hcr53) mk_X10_canBe ml_X10_74 ⟨(Nat.le_of_ble_eq_true rfl), (Nat.le_of_ble_eq_true rfl)⟩ G [0, 1, 2, 3, 4, 5, 6, 7] rfl rfl 0 rfl rfl rfl hl.1 rfl (Nat.le_of_ble_eq_true rfl) dX10_does_256 ⟨Nat.zero_le _, Nat.zero_le _⟩) rfl ?_
    refine lv_if_ne (tgt := 263) hx hb dX10_does_259 (by decide) (fun c54 => ?_) (fun c54 => ?_)
    · replace hf := if_f hf c54
      refine lv_aload_n hx hb dX10_does_263 rfl (lv_at hl 1 rfl) ?_
      refine r_get X inw_X10 G 0 rfl rfl 0 (by decide) fl_X10_7 (v := .ref (aMO 0)) rfl dX10_does_264 ?_
      refine lv_aload_n hx hb dX10_does_267 rfl (lv_at hl 1 rfl) ?_
      refine lv_iload_n hx hb dX10_does_268 rfl (lv_at hl 2 rfl) ?_
      refine lv_iload_n hx hb dX10_does_269 rfl (lv_at hl 0 rfl) ?_
      obtain ⟨r55, hcr55, hf⟩ := bd_some hf
      refine p_R (st1 := [.int r55, .ref (aMO 0)]) (run_V (rest := [.ref (aMO 0)]) X (ctX10_messageAt hZ ot aMO hcr55) mk_X10_messageAt ml_X10_71 ⟨(Nat.le_of_ble_eq_true rfl), (Nat.le_of_ble_eq_true rfl)⟩ G [0, 1, 2, 3, 4, 5, 6, 7] rfl rfl 0 rfl rfl rfl hl.1 rfl (Nat.le_of_ble_eq_true rfl) dX10_does_270 ⟨Nat.zero_le _, Nat.zero_le _⟩) rfl ?_
      refine lv_dup2_11 hx hb dX10_does_273 rfl rfl ?_
      obtain ⟨h56, hf⟩ := ix_some hf
      refine r_iald X G 1 rfl h56 dX10_does_274 ?_
      refine lv_iconst (v := 1) hx hb dX10_does_275 (by decide) ?_
      refine lv_isub hx hb dX10_does_276 ?_
      obtain ⟨h57, hf⟩ := ix_some hf
      obtain ⟨MO58, eMO58, hf⟩ := nm_some hf
      refine r_iast X G 1 rfl h57 (ws' := kMo k ot aMO (MO58)) (by subst eMO58; rfl) dX10_does_277 (fun H locs G => ?_)
      refine lv_goto (tgt := 281) hx hb dX10_does_278 (by decide) ?_
      refine lv_aload_n hx hb dX10_does_281 rfl (lv_at hl 1 rfl) ?_
      refine lv_iload_n hx hb dX10_does_282 rfl (lv_at hl 2 rfl) ?_
      obtain ⟨r59, hcr59, hf⟩ := bd_some hf
      refine p_N (st1 := []) (wr := []) (ws' := kMo k ot aMO (r59)) (run_V (rest := []) X (ctX10_goesOn hZ ot aMO hcr59) mk_X10_goesOn ml_X10_78 ⟨(Nat.le_of_ble_eq_true rfl), (Nat.le_of_ble_eq_true rfl)⟩ G [0, 1, 2, 3, 4, 5, 6, 7] rfl rfl 0 rfl rfl rfl hl.1 rfl (Nat.le_of_ble_eq_true rfl) dX10_does_283 ⟨Nat.zero_le _, Nat.zero_le _⟩) rfl G [0, 1, 2, 3, 4, 5, 6, 7] [] 8 rfl rfl rfl rfl rfl (by decide) (by decide) rfl (fun H locs G => ?_)
      cases hf
      exact e_mv X G dX10_does_286
    · replace hf := if_t hf c54
      cases hf
      exact e_mv X G dX10_does_262
  replace hf := if_f hf c52
  have hd := tsw_d (x := r2) (lo' := 0) (hi' := 7) (dflt := 270) (offs := #[45, 97, 125, 163, 194, 225, 243, 45]) [(0 : Int32), (7 : Int32), (1 : Int32), (2 : Int32), (3 : Int32), (4 : Int32), (5 : Int32), (6 : Int32)] (by
      intro k hk
      simp only [List.mem_cons, List.not_mem_nil, or_false] at hk
      rcases hk with rfl | rfl | rfl | rfl | rfl | rfl | rfl | rfl
      · exact fun z => c3 (Or.inl z)
      · exact fun z => c3 (Or.inr (z))
      · exact c16
      · exact c22
      · exact c30
      · exact c38
      · exact c46
      · exact c52
      ) 7 (by decide) (by decide +kernel)
  refine r_tsw X (tgt := 281) dX10_does_11 (by rw [hd.1]; rfl) hd.2 ?_
  refine lv_aload_n hx hb dX10_does_281 rfl (lv_at hl 1 rfl) ?_
  refine lv_iload_n hx hb dX10_does_282 rfl (lv_at hl 2 rfl) ?_
  obtain ⟨r60, hcr60, hf⟩ := bd_some hf
  refine p_N (st1 := []) (wr := []) (ws' := kMo k ot aMO (r60)) (run_V (rest := []) X (ctX10_goesOn hZ ot aMO hcr60) mk_X10_goesOn ml_X10_78 ⟨(Nat.le_of_ble_eq_true rfl), (Nat.le_of_ble_eq_true rfl)⟩ G [0, 1, 2, 3, 4, 5, 6, 7] rfl rfl 0 rfl rfl rfl hl.1 rfl (Nat.le_of_ble_eq_true rfl) dX10_does_283 ⟨Nat.zero_le _, Nat.zero_le _⟩) rfl G [0, 1, 2, 3, 4, 5, 6, 7] [] 8 rfl rfl rfl rfl rfl (by decide) (by decide) rfl (fun H locs G => ?_)
  cases hf
  exact e_mv X G dX10_does_286
theorem mk_X10_does : MV yX10_does cX10_does 3 none 1 := ⟨co_X10_does, in_X10, im_X10_does, se_X10_does, by decide +kernel, by decide +kernel⟩
noncomputable def FX10_isHeldUp (MO : MoT) (v1 : Int32) : Option (Bool) :=
  (FX10_isEnded MO v1).bind fun r1 =>
  if (bI r1) = 0 then (
    (FX10_canBe MO v1).bind fun r3 =>
    if (bI r3) = 0 then (
      some true
    ) else (
      some false
    )
  ) else (
    some false
  )
set_option maxHeartbeats 4000000 in
set_option maxRecDepth 100000 in
theorem ctX10_isHeldUp {l : Launch} {D : va_G} {k : Nat → ClassId} {Z : ZT} (hZ : ZOK Z) (ot : Nat) (aMO : Nat → Nat) {MO : MoT} {v1 : Int32} {q : Bool} (hf : FX10_isHeldUp MO v1 = some q) :
    CR l D k Z yX10_isHeldUp cX10_isHeldUp 2 (some .boolean) 3 65 [.ref ot, .int v1] (some (.int (bI q))) (kMo k ot aMO (MO)) := by
  refine CR.start hZ (by decide) (Nat.le_of_ble_eq_true rfl) ?_
  intro p e s m below meth c ls X hl G
  have hx := X.1
  have hb := X.2.1
  have hl : lv_has ls 2 [(0, .ref ot), (1, .int v1)] := hl
  unfold FX10_isHeldUp at hf
  refine lv_aload_n hx hb dX10_isHeldUp_0 rfl (lv_at hl 0 rfl) ?_
  refine lv_iload_n hx hb dX10_isHeldUp_1 rfl (lv_at hl 1 rfl) ?_
  obtain ⟨r1, hcr1, hf⟩ := bd_some hf
  refine p_R (st1 := [.int (bI r1)]) (run_V (rest := []) X (ctX10_isEnded hZ ot aMO hcr1) mk_X10_isEnded ml_X10_81 ⟨(Nat.le_of_ble_eq_true rfl), (Nat.le_of_ble_eq_true rfl)⟩ G [0, 1, 2, 3, 4, 5, 6, 7] rfl rfl 0 rfl rfl rfl hl.1 rfl (Nat.le_of_ble_eq_true rfl) dX10_isHeldUp_2 ⟨Nat.zero_le _, Nat.zero_le _⟩) rfl ?_
  refine lv_if_ne (tgt := 20) hx hb dX10_isHeldUp_5 (by decide) (fun c2 => ?_) (fun c2 => ?_)
  · replace hf := if_f hf c2
    refine lv_iconst (v := 0) hx hb dX10_isHeldUp_20 (by decide) ?_
    cases hf
    exact e_rz _ rfl X dX10_isHeldUp_21
  · replace hf := if_t hf c2
    refine lv_aload_n hx hb dX10_isHeldUp_8 rfl (lv_at hl 0 rfl) ?_
    refine lv_iload_n hx hb dX10_isHeldUp_9 rfl (lv_at hl 1 rfl) ?_
    obtain ⟨r3, hcr3, hf⟩ := bd_some hf
    refine p_R (st1 := [.int (bI r3)]) (run_V (rest := []) X (ctX10_canBe hZ ot aMO hcr3) mk_X10_canBe ml_X10_74 ⟨(Nat.le_of_ble_eq_true rfl), (Nat.le_of_ble_eq_true rfl)⟩ G [0, 1, 2, 3, 4, 5, 6, 7] rfl rfl 0 rfl rfl rfl hl.1 rfl (Nat.le_of_ble_eq_true rfl) dX10_isHeldUp_10 ⟨Nat.zero_le _, Nat.zero_le _⟩) rfl ?_
    refine lv_if_ne (tgt := 20) hx hb dX10_isHeldUp_13 (by decide) (fun c4 => ?_) (fun c4 => ?_)
    · replace hf := if_f hf c4
      refine lv_iconst (v := 0) hx hb dX10_isHeldUp_20 (by decide) ?_
      cases hf
      exact e_rz _ rfl X dX10_isHeldUp_21
    · replace hf := if_t hf c4
      refine lv_iconst (v := 1) hx hb dX10_isHeldUp_16 (by decide) ?_
      refine lv_goto (tgt := 21) hx hb dX10_isHeldUp_17 (by decide) ?_
      cases hf
      exact e_rz _ rfl X dX10_isHeldUp_21
theorem mk_X10_isHeldUp : MV yX10_isHeldUp cX10_isHeldUp 2 (some .boolean) 1 := ⟨co_X10_isHeldUp, in_X10, im_X10_isHeldUp, se_X10_isHeldUp, by decide +kernel, by decide +kernel⟩
noncomputable def FX10_can_20 (MO : MoT) (v1 : Int32) (v2 : Int32) (v3 : Int32) : (Int32 × Int32) → Option ((Int32 × Int32) ⊕ ((Int32) ⊕ ((Unit) ⊕ (Int32)))) := fun stL4 =>
  nm (((Mo_b MO) + (7 : Int32)) + v1) fun x5 =>
  ix x5 9519 <|
  if (Mo_all MO (Int32.toNatClampNeg x5)) ≤ stL4.2 then (
    some (.inr (.inl stL4.1))
  ) else (
    (FX10_sort MO v1 stL4.2).bind fun r8 =>
    if r8 = v2 then (
      (FX10_number MO v1 stL4.2).bind fun r15 =>
      if r15 = v3 then (
        some (.inr (.inr (.inl ())))
      ) else (
        (FX10_sort MO v1 stL4.2).bind fun r17 =>
        if r17 = (8 : Int32) then (
          some (.inr (.inl (1 : Int32)))
        ) else (
          (FX10_sort MO v1 stL4.2).bind fun r19 =>
          if r19 = (9 : Int32) then (
            some (.inr (.inr (.inr ((0 : Int32)))))
          ) else (
            nm (stL4.2 + 1) fun x21 =>
            some (.inl ((0 : Int32), x21))
          )
        )
      )
    ) else (
      (FX10_sort MO v1 stL4.2).bind fun r10 =>
      if r10 = (8 : Int32) then (
        some (.inr (.inl (1 : Int32)))
      ) else (
        (FX10_sort MO v1 stL4.2).bind fun r12 =>
        if r12 = (9 : Int32) then (
          some (.inr (.inr (.inr ((0 : Int32)))))
        ) else (
          nm (stL4.2 + 1) fun x14 =>
          some (.inl ((0 : Int32), x14))
        )
      )
    )
  )
noncomputable def FX10_can_111 (MO : MoT) (v1 : Int32) (v2 : Int32) (v3 : Int32) (uL4 : Int32) : Int32 → Option ((Int32) ⊕ ((Unit) ⊕ (Unit))) := fun stL22 =>
  (FX10_place MO v1).bind fun r23 =>
  if r23 ≤ stL22 then (
    some (.inr (.inl ()))
  ) else (
    if uL4 = 0 then (
      some (.inr (.inl ()))
    ) else (
      (FX10_sort MO v1 stL22).bind fun r26 =>
      if r26 = v2 then (
        (FX10_number MO v1 stL22).bind fun r29 =>
        if r29 = v3 then (
          some (.inr (.inr (())))
        ) else (
          nm (stL22 + 1) fun x31 =>
          some (.inl x31)
        )
      ) else (
        nm (stL22 + 1) fun x28 =>
        some (.inl x28)
      )
    )
  )
noncomputable def FX10_can_111_L32 (MO : MoT) (v1 : Int32) (v2 : Int32) (v3 : Int32) (uL4 : Int32) : Int32 → Option ((Int32) ⊕ ((Unit) ⊕ (Unit))) := fun stL32 =>
  (FX10_place MO v1).bind fun r33 =>
  if r33 ≤ stL32 then (
    some (.inr (.inl ()))
  ) else (
    if uL4 = 0 then (
      some (.inr (.inl ()))
    ) else (
      (FX10_sort MO v1 stL32).bind fun r36 =>
      if r36 = v2 then (
        (FX10_number MO v1 stL32).bind fun r39 =>
        if r39 = v3 then (
          some (.inr (.inr (())))
        ) else (
          nm (stL32 + 1) fun x41 =>
          some (.inl x41)
        )
      ) else (
        nm (stL32 + 1) fun x38 =>
        some (.inl x38)
      )
    )
  )
noncomputable def FX10_can (MO : MoT) (v1 : Int32) (v2 : Int32) (v3 : Int32) : Option (Bool) :=
  (FX10_isEnded MO v1).bind fun r1 =>
  if (bI r1) = 0 then (
    (FX10_place MO v1).bind fun r3 =>
    (itr (FX10_can_20 MO v1 v2 v3) ((0 : Int32), r3)).bind fun exL4 =>
    Sum.elim (fun uL4 =>
      (itr (FX10_can_111 MO v1 v2 v3 uL4) (0 : Int32)).bind fun exL22 =>
      Sum.elim (fun uL22 =>
        some false
      )
      (fun uL22 =>
        some true
      ) exL22
    ) (
      Sum.elim (fun uL4 =>
        some true
      )
      (fun uL4 =>
        (itr (FX10_can_111_L32 MO v1 v2 v3 uL4) (0 : Int32)).bind fun exL32 =>
        Sum.elim (fun uL32 =>
          some false
        )
        (fun uL32 =>
          some true
        ) exL32
      )
    ) exL4
  ) else (
    some false
  )
set_option maxHeartbeats 4000000 in
set_option maxRecDepth 100000 in
theorem ctX10_can {l : Launch} {D : va_G} {k : Nat → ClassId} {Z : ZT} (hZ : ZOK Z) (ot : Nat) (aMO : Nat → Nat) {MO : MoT} {v1 : Int32} {v2 : Int32} {v3 : Int32} {q : Bool} (hf : FX10_can MO v1 v2 v3 = some q) :
    CR l D k Z yX10_can cX10_can 6 (some .boolean) 2 42 [.ref ot, .int v1, .int v2, .int v3] (some (.int (bI q))) (kMo k ot aMO (MO)) := by
  refine CR.start hZ (by decide) (Nat.le_of_ble_eq_true rfl) ?_
  intro p e s m below meth c ls X hl G
  have hx := X.1
  have hb := X.2.1
  have hl : lv_has ls 6 [(0, .ref ot), (1, .int v1), (2, .int v2), (3, .int v3)] := hl
  unfold FX10_can at hf
  refine lv_aload_n hx hb dX10_can_0 rfl (lv_at hl 0 rfl) ?_
  refine lv_iload_n hx hb dX10_can_1 rfl (lv_at hl 1 rfl) ?_
  obtain ⟨r1, hcr1, hf⟩ := bd_some hf
  refine p_R (st1 := [.int (bI r1)]) (run_V (rest := []) X (ctX10_isEnded hZ ot aMO hcr1) mk_X10_isEnded ml_X10_81 ⟨(Nat.le_of_ble_eq_true rfl), (Nat.le_of_ble_eq_true rfl)⟩ G [0, 1, 2, 3, 4, 5, 6, 7] rfl rfl 0 rfl rfl rfl hl.1 rfl (Nat.le_of_ble_eq_true rfl) dX10_can_2 ⟨Nat.zero_le _, Nat.zero_le _⟩) rfl ?_
  refine lv_if_eq (tgt := 10) hx hb dX10_can_5 (by decide) (fun c2 => ?_) (fun c2 => ?_)
  · replace hf := if_t hf c2
    refine lv_iconst (v := 0) hx hb dX10_can_10 (by decide) ?_
    refine lv_istore (lv' := [(4, .int (0 : Int32)), (0, .ref ot), (1, .int v1), (2, .int v2), (3, .int v3)]) hx hb dX10_can_11 hl (by decide) rfl (fun ls hl => ?_)
    refine lv_aload_n hx hb dX10_can_13 rfl (lv_at hl 1 rfl) ?_
    refine lv_iload_n hx hb dX10_can_14 rfl (lv_at hl 2 rfl) ?_
    obtain ⟨r3, hcr3, hf⟩ := bd_some hf
    refine p_R (st1 := [.int r3]) (run_V (rest := []) X (ctX10_place hZ ot aMO hcr3) mk_X10_place ml_X10_51 ⟨(Nat.le_of_ble_eq_true rfl), (Nat.le_of_ble_eq_true rfl)⟩ G [0, 1, 2, 3, 4, 5, 6, 7] rfl rfl 0 rfl rfl rfl hl.1 rfl (Nat.le_of_ble_eq_true rfl) dX10_can_15 ⟨Nat.zero_le _, Nat.zero_le _⟩) rfl ?_
    refine lv_istore (lv' := [(5, .int r3), (4, .int (0 : Int32)), (0, .ref ot), (1, .int v1), (2, .int v2), (3, .int v3)]) hx hb dX10_can_18 hl (by decide) rfl (fun ls hl => ?_)
    obtain ⟨exL4, hitL4, hfL4⟩ := bd_some hf
    obtain ⟨nL4, hitL4⟩ := itr_ex hitL4
    have KL4_0 : ∀ (u : Int32) (ls : Array Slot), exL4 = Sum.inl u → lv_has ls 6 [(0, .ref ot), (1, .int v1), (2, .int v2), (3, .int v3), (4, .int u)] → W p l e (rmz 2 42) s m [.ref ot, .int v1, .int v2, .int v3].toArray below meth c s.heap [] 0 0 (MQ below (Qr (some (.int (bI q)))) [.ref ot, .int v1, .int v2, .int v3].toArray s 0 0 (fun _ => False)) (F0 m 108 ls []) := by
      intro uL4 ls hex hl
      rw [hex] at hfL4
      have hf := hfL4
      replace hf := sl_l hf
      refine lv_iconst (v := 0) hx hb dX10_can_108 (by decide) ?_
      refine lv_istore (lv' := [(5, .int (0 : Int32)), (0, .ref ot), (1, .int v1), (2, .int v2), (3, .int v3), (4, .int uL4)]) hx hb dX10_can_109 hl (by decide) rfl (fun ls hl => ?_)
      obtain ⟨exL22, hitL22, hfL22⟩ := bd_some hf
      obtain ⟨nL22, hitL22⟩ := itr_ex hitL22
      have KL22_0 : ∀ (u : Unit) (ls : Array Slot), exL22 = Sum.inl u → lv_has ls 6 [] → W p l e (rmz 2 42) s m [.ref ot, .int v1, .int v2, .int v3].toArray below meth c s.heap [] 0 0 (MQ below (Qr (some (.int (bI q)))) [.ref ot, .int v1, .int v2, .int v3].toArray s 0 0 (fun _ => False)) (F0 m 156 ls []) := by
        intro uL22 ls hex hl
        rw [hex] at hfL22
        have hf := hfL22
        replace hf := sl_l hf
        refine lv_iconst (v := 0) hx hb dX10_can_156 (by decide) ?_
        cases hf
        exact e_rz _ rfl X dX10_can_157
      have KL22_1 : ∀ (u : Unit) (ls : Array Slot), exL22 = Sum.inr (u) → lv_has ls 6 [] → W p l e (rmz 2 42) s m [.ref ot, .int v1, .int v2, .int v3].toArray below meth c s.heap [] 0 0 (MQ below (Qr (some (.int (bI q)))) [.ref ot, .int v1, .int v2, .int v3].toArray s 0 0 (fun _ => False)) (F0 m 148 ls []) := by
        intro uL22 ls hex hl
        rw [hex] at hfL22
        have hf := hfL22
        replace hf := sl_r hf
        refine lv_iconst (v := 1) hx hb dX10_can_148 (by decide) ?_
        cases hf
        exact e_rz _ rfl X dX10_can_149
      have LL22 : ∀ (n : Nat) (stL22 : Int32) (ls : Array Slot), lv_has ls 6 [(0, .ref ot), (1, .int v1), (2, .int v2), (3, .int v3), (4, .int uL4), (5, .int stL22)] → it (FX10_can_111 MO v1 v2 v3 uL4) n stL22 = some exL22 → W p l e (rmz 2 42) s m [.ref ot, .int v1, .int v2, .int v3].toArray below meth c s.heap [] 0 0 (MQ below (Qr (some (.int (bI q)))) [.ref ot, .int v1, .int v2, .int v3].toArray s 0 0 (fun _ => False)) (F0 m 111 ls []) := by
        intro n
        induction n with
        | zero =>
          intro stL22 ls hl hit
          exact (it_zero hit).elim
        | succ n ih =>
          intro stL22 ls hl hit
          obtain ⟨oL22, hf, hoL22⟩ := it_bd hit
          unfold FX10_can_111 at hf
          refine lv_iload hx hb dX10_can_111 (lv_at hl 5 rfl) ?_
          refine lv_aload_n hx hb dX10_can_113 rfl (lv_at hl 0 rfl) ?_
          refine lv_iload_n hx hb dX10_can_114 rfl (lv_at hl 1 rfl) ?_
          obtain ⟨r23, hcr23, hf⟩ := bd_some hf
          refine p_R (st1 := [.int r23, .int stL22]) (run_V (rest := [.int stL22]) X (ctX10_place hZ ot aMO hcr23) mk_X10_place ml_X10_51 ⟨(Nat.le_of_ble_eq_true rfl), (Nat.le_of_ble_eq_true rfl)⟩ G [0, 1, 2, 3, 4, 5, 6, 7] rfl rfl 0 rfl rfl rfl hl.1 rfl (Nat.le_of_ble_eq_true rfl) dX10_can_115 ⟨Nat.zero_le _, Nat.zero_le _⟩) rfl ?_
          refine lv_icmp_ge (tgt := 156) hx hb dX10_can_118 (by decide) (fun c24 => ?_) (fun c24 => ?_)
          · replace hf := if_t hf c24
            cases hf
            exact KL22_0 () _ (it_out hoL22) (lv_sub hl [] rfl)
          · replace hf := if_f hf c24
            refine lv_iload hx hb dX10_can_121 (lv_at hl 4 rfl) ?_
            refine lv_if_eq (tgt := 156) hx hb dX10_can_123 (by decide) (fun c25 => ?_) (fun c25 => ?_)
            · replace hf := if_t hf c25
              cases hf
              exact KL22_0 () _ (it_out hoL22) (lv_sub hl [] rfl)
            · replace hf := if_f hf c25
              refine lv_aload_n hx hb dX10_can_126 rfl (lv_at hl 0 rfl) ?_
              refine lv_iload_n hx hb dX10_can_127 rfl (lv_at hl 1 rfl) ?_
              refine lv_iload hx hb dX10_can_128 (lv_at hl 5 rfl) ?_
              obtain ⟨r26, hcr26, hf⟩ := bd_some hf
              refine p_R (st1 := [.int r26]) (run_V (rest := []) X (ctX10_sort hZ ot aMO hcr26) mk_X10_sort ml_X10_55 ⟨(Nat.le_of_ble_eq_true rfl), (Nat.le_of_ble_eq_true rfl)⟩ G [0, 1, 2, 3, 4, 5, 6, 7] rfl rfl 0 rfl rfl rfl hl.1 rfl (Nat.le_of_ble_eq_true rfl) dX10_can_130 ⟨Nat.zero_le _, Nat.zero_le _⟩) rfl ?_
              refine lv_iload_n hx hb dX10_can_133 rfl (lv_at hl 2 rfl) ?_
              refine lv_icmp_ne (tgt := 150) hx hb dX10_can_134 (by decide) (fun c27 => ?_) (fun c27 => ?_)
              · replace hf := if_f hf c27
                obtain ⟨x28, ex28, hf⟩ := nm_some hf
                refine lv_iinc (v := x28) (lv' := [(5, .int x28), (0, .ref ot), (1, .int v1), (2, .int v2), (3, .int v3), (4, .int uL4)]) hx hb dX10_can_150 hl (k := 5) rfl (by subst ex28; rfl) (by decide) rfl (fun ls hl => ?_)
                refine lv_goto (tgt := 111) hx hb dX10_can_153 (by decide) ?_
                cases hf
                exact ih x28 _ (lv_sub hl [1, 2, 3, 4, 5, 0] rfl) hoL22
              · replace hf := if_t hf c27
                refine lv_aload_n hx hb dX10_can_137 rfl (lv_at hl 0 rfl) ?_
                refine lv_iload_n hx hb dX10_can_138 rfl (lv_at hl 1 rfl) ?_
                refine lv_iload hx hb dX10_can_139 (lv_at hl 5 rfl) ?_
                obtain ⟨r29, hcr29, hf⟩ := bd_some hf
                refine p_R (st1 := [.int r29]) (run_V (rest := []) X (ctX10_number hZ ot aMO hcr29) mk_X10_number ml_X10_59 ⟨(Nat.le_of_ble_eq_true rfl), (Nat.le_of_ble_eq_true rfl)⟩ G [0, 1, 2, 3, 4, 5, 6, 7] rfl rfl 0 rfl rfl rfl hl.1 rfl (Nat.le_of_ble_eq_true rfl) dX10_can_141 ⟨Nat.zero_le _, Nat.zero_le _⟩) rfl ?_
                refine lv_iload_n hx hb dX10_can_144 rfl (lv_at hl 3 rfl) ?_
                refine lv_icmp_ne (tgt := 150) hx hb dX10_can_145 (by decide) (fun c30 => ?_) (fun c30 => ?_)
                · replace hf := if_f hf c30
                  obtain ⟨x31, ex31, hf⟩ := nm_some hf
                  refine lv_iinc (v := x31) (lv' := [(5, .int x31), (0, .ref ot), (1, .int v1), (2, .int v2), (3, .int v3), (4, .int uL4)]) hx hb dX10_can_150 hl (k := 5) rfl (by subst ex31; rfl) (by decide) rfl (fun ls hl => ?_)
                  refine lv_goto (tgt := 111) hx hb dX10_can_153 (by decide) ?_
                  cases hf
                  exact ih x31 _ (lv_sub hl [1, 2, 3, 4, 5, 0] rfl) hoL22
                · replace hf := if_t hf c30
                  cases hf
                  exact KL22_1 () _ (it_out hoL22) (lv_sub hl [] rfl)
      exact LL22 nL22 (0 : Int32) _ (lv_sub hl [1, 2, 3, 4, 5, 0] rfl) hitL22
    have KL4_1 : ∀ (u : Unit) (ls : Array Slot), exL4 = Sum.inr (Sum.inl u) → lv_has ls 6 [] → W p l e (rmz 2 42) s m [.ref ot, .int v1, .int v2, .int v3].toArray below meth c s.heap [] 0 0 (MQ below (Qr (some (.int (bI q)))) [.ref ot, .int v1, .int v2, .int v3].toArray s 0 0 (fun _ => False)) (F0 m 61 ls []) := by
      intro uL4 ls hex hl
      rw [hex] at hfL4
      have hf := hfL4
      replace hf := sl_r hf
      replace hf := sl_l hf
      refine lv_iconst (v := 1) hx hb dX10_can_61 (by decide) ?_
      cases hf
      exact e_rz _ rfl X dX10_can_62
    have KL4_2 : ∀ (u : Int32) (ls : Array Slot), exL4 = Sum.inr (Sum.inr (u)) → lv_has ls 6 [(0, .ref ot), (1, .int v1), (2, .int v2), (3, .int v3), (4, .int u)] → W p l e (rmz 2 42) s m [.ref ot, .int v1, .int v2, .int v3].toArray below meth c s.heap [] 0 0 (MQ below (Qr (some (.int (bI q)))) [.ref ot, .int v1, .int v2, .int v3].toArray s 0 0 (fun _ => False)) (F0 m 99 ls []) := by
      intro uL4 ls hex hl
      rw [hex] at hfL4
      have hf := hfL4
      replace hf := sl_r hf
      replace hf := sl_r hf
      refine lv_goto (tgt := 108) hx hb dX10_can_99 (by decide) ?_
      refine lv_iconst (v := 0) hx hb dX10_can_108 (by decide) ?_
      refine lv_istore (lv' := [(5, .int (0 : Int32)), (0, .ref ot), (1, .int v1), (2, .int v2), (3, .int v3), (4, .int uL4)]) hx hb dX10_can_109 hl (by decide) rfl (fun ls hl => ?_)
      obtain ⟨exL32, hitL32, hfL32⟩ := bd_some hf
      obtain ⟨nL32, hitL32⟩ := itr_ex hitL32
      have KL32_0 : ∀ (u : Unit) (ls : Array Slot), exL32 = Sum.inl u → lv_has ls 6 [] → W p l e (rmz 2 42) s m [.ref ot, .int v1, .int v2, .int v3].toArray below meth c s.heap [] 0 0 (MQ below (Qr (some (.int (bI q)))) [.ref ot, .int v1, .int v2, .int v3].toArray s 0 0 (fun _ => False)) (F0 m 156 ls []) := by
        intro uL32 ls hex hl
        rw [hex] at hfL32
        have hf := hfL32
        replace hf := sl_l hf
        refine lv_iconst (v := 0) hx hb dX10_can_156 (by decide) ?_
        cases hf
        exact e_rz _ rfl X dX10_can_157
      have KL32_1 : ∀ (u : Unit) (ls : Array Slot), exL32 = Sum.inr (u) → lv_has ls 6 [] → W p l e (rmz 2 42) s m [.ref ot, .int v1, .int v2, .int v3].toArray below meth c s.heap [] 0 0 (MQ below (Qr (some (.int (bI q)))) [.ref ot, .int v1, .int v2, .int v3].toArray s 0 0 (fun _ => False)) (F0 m 148 ls []) := by
        intro uL32 ls hex hl
        rw [hex] at hfL32
        have hf := hfL32
        replace hf := sl_r hf
        refine lv_iconst (v := 1) hx hb dX10_can_148 (by decide) ?_
        cases hf
        exact e_rz _ rfl X dX10_can_149
      have LL32 : ∀ (n : Nat) (stL32 : Int32) (ls : Array Slot), lv_has ls 6 [(0, .ref ot), (1, .int v1), (2, .int v2), (3, .int v3), (4, .int uL4), (5, .int stL32)] → it (FX10_can_111_L32 MO v1 v2 v3 uL4) n stL32 = some exL32 → W p l e (rmz 2 42) s m [.ref ot, .int v1, .int v2, .int v3].toArray below meth c s.heap [] 0 0 (MQ below (Qr (some (.int (bI q)))) [.ref ot, .int v1, .int v2, .int v3].toArray s 0 0 (fun _ => False)) (F0 m 111 ls []) := by
        intro n
        induction n with
        | zero =>
          intro stL32 ls hl hit
          exact (it_zero hit).elim
        | succ n ih =>
          intro stL32 ls hl hit
          obtain ⟨oL32, hf, hoL32⟩ := it_bd hit
          unfold FX10_can_111_L32 at hf
          refine lv_iload hx hb dX10_can_111 (lv_at hl 5 rfl) ?_
          refine lv_aload_n hx hb dX10_can_113 rfl (lv_at hl 0 rfl) ?_
          refine lv_iload_n hx hb dX10_can_114 rfl (lv_at hl 1 rfl) ?_
          obtain ⟨r33, hcr33, hf⟩ := bd_some hf
          refine p_R (st1 := [.int r33, .int stL32]) (run_V (rest := [.int stL32]) X (ctX10_place hZ ot aMO hcr33) mk_X10_place ml_X10_51 ⟨(Nat.le_of_ble_eq_true rfl), (Nat.le_of_ble_eq_true rfl)⟩ G [0, 1, 2, 3, 4, 5, 6, 7] rfl rfl 0 rfl rfl rfl hl.1 rfl (Nat.le_of_ble_eq_true rfl) dX10_can_115 ⟨Nat.zero_le _, Nat.zero_le _⟩) rfl ?_
          refine lv_icmp_ge (tgt := 156) hx hb dX10_can_118 (by decide) (fun c34 => ?_) (fun c34 => ?_)
          · replace hf := if_t hf c34
            cases hf
            exact KL32_0 () _ (it_out hoL32) (lv_sub hl [] rfl)
          · replace hf := if_f hf c34
            refine lv_iload hx hb dX10_can_121 (lv_at hl 4 rfl) ?_
            refine lv_if_eq (tgt := 156) hx hb dX10_can_123 (by decide) (fun c35 => ?_) (fun c35 => ?_)
            · replace hf := if_t hf c35
              cases hf
              exact KL32_0 () _ (it_out hoL32) (lv_sub hl [] rfl)
            · replace hf := if_f hf c35
              refine lv_aload_n hx hb dX10_can_126 rfl (lv_at hl 0 rfl) ?_
              refine lv_iload_n hx hb dX10_can_127 rfl (lv_at hl 1 rfl) ?_
              refine lv_iload hx hb dX10_can_128 (lv_at hl 5 rfl) ?_
              obtain ⟨r36, hcr36, hf⟩ := bd_some hf
              refine p_R (st1 := [.int r36]) (run_V (rest := []) X (ctX10_sort hZ ot aMO hcr36) mk_X10_sort ml_X10_55 ⟨(Nat.le_of_ble_eq_true rfl), (Nat.le_of_ble_eq_true rfl)⟩ G [0, 1, 2, 3, 4, 5, 6, 7] rfl rfl 0 rfl rfl rfl hl.1 rfl (Nat.le_of_ble_eq_true rfl) dX10_can_130 ⟨Nat.zero_le _, Nat.zero_le _⟩) rfl ?_
              refine lv_iload_n hx hb dX10_can_133 rfl (lv_at hl 2 rfl) ?_
              refine lv_icmp_ne (tgt := 150) hx hb dX10_can_134 (by decide) (fun c37 => ?_) (fun c37 => ?_)
              · replace hf := if_f hf c37
                obtain ⟨x38, ex38, hf⟩ := nm_some hf
                refine lv_iinc (v := x38) (lv' := [(5, .int x38), (0, .ref ot), (1, .int v1), (2, .int v2), (3, .int v3), (4, .int uL4)]) hx hb dX10_can_150 hl (k := 5) rfl (by subst ex38; rfl) (by decide) rfl (fun ls hl => ?_)
                refine lv_goto (tgt := 111) hx hb dX10_can_153 (by decide) ?_
                cases hf
                exact ih x38 _ (lv_sub hl [1, 2, 3, 4, 5, 0] rfl) hoL32
              · replace hf := if_t hf c37
                refine lv_aload_n hx hb dX10_can_137 rfl (lv_at hl 0 rfl) ?_
                refine lv_iload_n hx hb dX10_can_138 rfl (lv_at hl 1 rfl) ?_
                refine lv_iload hx hb dX10_can_139 (lv_at hl 5 rfl) ?_
                obtain ⟨r39, hcr39, hf⟩ := bd_some hf
                refine p_R (st1 := [.int r39]) (run_V (rest := []) X (ctX10_number hZ ot aMO hcr39) mk_X10_number ml_X10_59 ⟨(Nat.le_of_ble_eq_true rfl), (Nat.le_of_ble_eq_true rfl)⟩ G [0, 1, 2, 3, 4, 5, 6, 7] rfl rfl 0 rfl rfl rfl hl.1 rfl (Nat.le_of_ble_eq_true rfl) dX10_can_141 ⟨Nat.zero_le _, Nat.zero_le _⟩) rfl ?_
                refine lv_iload_n hx hb dX10_can_144 rfl (lv_at hl 3 rfl) ?_
                refine lv_icmp_ne (tgt := 150) hx hb dX10_can_145 (by decide) (fun c40 => ?_) (fun c40 => ?_)
                · replace hf := if_f hf c40
                  obtain ⟨x41, ex41, hf⟩ := nm_some hf
                  refine lv_iinc (v := x41) (lv' := [(5, .int x41), (0, .ref ot), (1, .int v1), (2, .int v2), (3, .int v3), (4, .int uL4)]) hx hb dX10_can_150 hl (k := 5) rfl (by subst ex41; rfl) (by decide) rfl (fun ls hl => ?_)
                  refine lv_goto (tgt := 111) hx hb dX10_can_153 (by decide) ?_
                  cases hf
                  exact ih x41 _ (lv_sub hl [1, 2, 3, 4, 5, 0] rfl) hoL32
                · replace hf := if_t hf c40
                  cases hf
                  exact KL32_1 () _ (it_out hoL32) (lv_sub hl [] rfl)
      exact LL32 nL32 (0 : Int32) _ (lv_sub hl [1, 2, 3, 4, 5, 0] rfl) hitL32
    have LL4 : ∀ (n : Nat) (stL4 : Int32 × Int32) (ls : Array Slot), lv_has ls 6 [(0, .ref ot), (1, .int v1), (2, .int v2), (3, .int v3), (4, .int (stL4.1)), (5, .int (stL4.2))] → it (FX10_can_20 MO v1 v2 v3) n stL4 = some exL4 → W p l e (rmz 2 42) s m [.ref ot, .int v1, .int v2, .int v3].toArray below meth c s.heap [] 0 0 (MQ below (Qr (some (.int (bI q)))) [.ref ot, .int v1, .int v2, .int v3].toArray s 0 0 (fun _ => False)) (F0 m 20 ls []) := by
      intro n
      induction n with
      | zero =>
        intro stL4 ls hl hit
        exact (it_zero hit).elim
      | succ n ih =>
        intro stL4 ls hl hit
        obtain ⟨oL4, hf, hoL4⟩ := it_bd hit
        unfold FX10_can_20 at hf
        refine lv_iload hx hb dX10_can_20 (lv_at hl 5 rfl) ?_
        refine lv_aload_n hx hb dX10_can_22 rfl (lv_at hl 0 rfl) ?_
        refine r_get X inw_X10 G 0 rfl rfl 0 (by decide) fl_X10_7 (v := .ref (aMO 0)) rfl dX10_can_23 ?_
        refine lv_aload_n hx hb dX10_can_26 rfl (lv_at hl 0 rfl) ?_
        refine r_get X inw_X10 G 0 rfl rfl 7 (by decide) fl_X10_40 (v := .int (Mo_b MO)) rfl dX10_can_27 ?_
        refine lv_bipush (v := 7) hx hb dX10_can_30 (by decide) ?_
        refine lv_iadd hx hb dX10_can_32 ?_
        refine lv_iload_n hx hb dX10_can_33 rfl (lv_at hl 1 rfl) ?_
        refine lv_iadd hx hb dX10_can_34 ?_
        obtain ⟨x5, ex5, hf⟩ := nm_some hf
        refine r_top (congrArg Value.int ex5) ?_
        obtain ⟨h6, hf⟩ := ix_some hf
        refine r_iald X G 1 rfl h6 dX10_can_35 ?_
        refine lv_icmp_ge (tgt := 108) hx hb dX10_can_36 (by decide) (fun c7 => ?_) (fun c7 => ?_)
        · replace hf := if_t hf c7
          cases hf
          exact KL4_0 stL4.1 _ (it_out hoL4) (lv_sub hl [0, 1, 2, 3, 4] rfl)
        · replace hf := if_f hf c7
          refine lv_aload_n hx hb dX10_can_39 rfl (lv_at hl 0 rfl) ?_
          refine lv_iload_n hx hb dX10_can_40 rfl (lv_at hl 1 rfl) ?_
          refine lv_iload hx hb dX10_can_41 (lv_at hl 5 rfl) ?_
          obtain ⟨r8, hcr8, hf⟩ := bd_some hf
          refine p_R (st1 := [.int r8]) (run_V (rest := []) X (ctX10_sort hZ ot aMO hcr8) mk_X10_sort ml_X10_55 ⟨(Nat.le_of_ble_eq_true rfl), (Nat.le_of_ble_eq_true rfl)⟩ G [0, 1, 2, 3, 4, 5, 6, 7] rfl rfl 0 rfl rfl rfl hl.1 rfl (Nat.le_of_ble_eq_true rfl) dX10_can_43 ⟨Nat.zero_le _, Nat.zero_le _⟩) rfl ?_
          refine lv_iload_n hx hb dX10_can_46 rfl (lv_at hl 2 rfl) ?_
          refine lv_icmp_ne (tgt := 63) hx hb dX10_can_47 (by decide) (fun c9 => ?_) (fun c9 => ?_)
          · replace hf := if_f hf c9
            refine lv_aload_n hx hb dX10_can_63 rfl (lv_at hl 0 rfl) ?_
            refine lv_iload_n hx hb dX10_can_64 rfl (lv_at hl 1 rfl) ?_
            refine lv_iload hx hb dX10_can_65 (lv_at hl 5 rfl) ?_
            obtain ⟨r10, hcr10, hf⟩ := bd_some hf
            refine p_R (st1 := [.int r10]) (run_V (rest := []) X (ctX10_sort hZ ot aMO hcr10) mk_X10_sort ml_X10_55 ⟨(Nat.le_of_ble_eq_true rfl), (Nat.le_of_ble_eq_true rfl)⟩ G [0, 1, 2, 3, 4, 5, 6, 7] rfl rfl 0 rfl rfl rfl hl.1 rfl (Nat.le_of_ble_eq_true rfl) dX10_can_67 ⟨Nat.zero_le _, Nat.zero_le _⟩) rfl ?_
            refine lv_bipush (v := 8) hx hb dX10_can_70 (by decide) ?_
            refine lv_icmp_ne (tgt := 79) hx hb dX10_can_72 (by decide) (fun c11 => ?_) (fun c11 => ?_)
            · replace hf := if_f hf c11
              refine lv_iconst (v := 0) hx hb dX10_can_79 (by decide) ?_
              refine lv_istore (lv' := [(4, .int (0 : Int32)), (0, .ref ot), (1, .int v1), (2, .int v2), (3, .int v3), (5, .int (stL4.2))]) hx hb dX10_can_80 hl (by decide) rfl (fun ls hl => ?_)
              refine lv_iload hx hb dX10_can_82 (lv_at hl 0 rfl) ?_
              refine lv_if_ne (tgt := 108) hx hb dX10_can_84 (by decide) (fun c => absurd c (by decide)) (fun _ => ?_)
              refine lv_aload_n hx hb dX10_can_87 rfl (lv_at hl 1 rfl) ?_
              refine lv_iload_n hx hb dX10_can_88 rfl (lv_at hl 2 rfl) ?_
              refine lv_iload hx hb dX10_can_89 (lv_at hl 5 rfl) ?_
              obtain ⟨r12, hcr12, hf⟩ := bd_some hf
              refine p_R (st1 := [.int r12]) (run_V (rest := []) X (ctX10_sort hZ ot aMO hcr12) mk_X10_sort ml_X10_55 ⟨(Nat.le_of_ble_eq_true rfl), (Nat.le_of_ble_eq_true rfl)⟩ G [0, 1, 2, 3, 4, 5, 6, 7] rfl rfl 0 rfl rfl rfl hl.1 rfl (Nat.le_of_ble_eq_true rfl) dX10_can_91 ⟨Nat.zero_le _, Nat.zero_le _⟩) rfl ?_
              refine lv_bipush (v := 9) hx hb dX10_can_94 (by decide) ?_
              refine lv_icmp_ne (tgt := 102) hx hb dX10_can_96 (by decide) (fun c13 => ?_) (fun c13 => ?_)
              · replace hf := if_f hf c13
                obtain ⟨x14, ex14, hf⟩ := nm_some hf
                refine lv_iinc (v := x14) (lv' := [(5, .int x14), (4, .int (0 : Int32)), (0, .ref ot), (1, .int v1), (2, .int v2), (3, .int v3)]) hx hb dX10_can_102 hl (k := 5) rfl (by subst ex14; rfl) (by decide) rfl (fun ls hl => ?_)
                refine lv_goto (tgt := 20) hx hb dX10_can_105 (by decide) ?_
                cases hf
                exact ih ((0 : Int32), x14) _ (lv_sub hl [2, 3, 4, 5, 1, 0] rfl) hoL4
              · replace hf := if_t hf c13
                cases hf
                exact KL4_2 (0 : Int32) _ (it_out hoL4) (lv_sub hl [1, 2, 3, 4, 0] rfl)
            · replace hf := if_t hf c11
              refine lv_iconst (v := 1) hx hb dX10_can_75 (by decide) ?_
              refine lv_goto (tgt := 80) hx hb dX10_can_76 (by decide) ?_
              refine lv_istore (lv' := [(4, .int (1 : Int32)), (0, .ref ot), (1, .int v1), (2, .int v2), (3, .int v3), (5, .int (stL4.2))]) hx hb dX10_can_80 hl (by decide) rfl (fun ls hl => ?_)
              refine lv_iload hx hb dX10_can_82 (lv_at hl 0 rfl) ?_
              refine lv_if_ne (tgt := 108) hx hb dX10_can_84 (by decide) (fun _ => ?_) (fun c => absurd c (by decide))
              cases hf
              exact KL4_0 (1 : Int32) _ (it_out hoL4) (lv_sub hl [1, 2, 3, 4, 0] rfl)
          · replace hf := if_t hf c9
            refine lv_aload_n hx hb dX10_can_50 rfl (lv_at hl 0 rfl) ?_
            refine lv_iload_n hx hb dX10_can_51 rfl (lv_at hl 1 rfl) ?_
            refine lv_iload hx hb dX10_can_52 (lv_at hl 5 rfl) ?_
            obtain ⟨r15, hcr15, hf⟩ := bd_some hf
            refine p_R (st1 := [.int r15]) (run_V (rest := []) X (ctX10_number hZ ot aMO hcr15) mk_X10_number ml_X10_59 ⟨(Nat.le_of_ble_eq_true rfl), (Nat.le_of_ble_eq_true rfl)⟩ G [0, 1, 2, 3, 4, 5, 6, 7] rfl rfl 0 rfl rfl rfl hl.1 rfl (Nat.le_of_ble_eq_true rfl) dX10_can_54 ⟨Nat.zero_le _, Nat.zero_le _⟩) rfl ?_
            refine lv_iload_n hx hb dX10_can_57 rfl (lv_at hl 3 rfl) ?_
            refine lv_icmp_ne (tgt := 63) hx hb dX10_can_58 (by decide) (fun c16 => ?_) (fun c16 => ?_)
            · replace hf := if_f hf c16
              refine lv_aload_n hx hb dX10_can_63 rfl (lv_at hl 0 rfl) ?_
              refine lv_iload_n hx hb dX10_can_64 rfl (lv_at hl 1 rfl) ?_
              refine lv_iload hx hb dX10_can_65 (lv_at hl 5 rfl) ?_
              obtain ⟨r17, hcr17, hf⟩ := bd_some hf
              refine p_R (st1 := [.int r17]) (run_V (rest := []) X (ctX10_sort hZ ot aMO hcr17) mk_X10_sort ml_X10_55 ⟨(Nat.le_of_ble_eq_true rfl), (Nat.le_of_ble_eq_true rfl)⟩ G [0, 1, 2, 3, 4, 5, 6, 7] rfl rfl 0 rfl rfl rfl hl.1 rfl (Nat.le_of_ble_eq_true rfl) dX10_can_67 ⟨Nat.zero_le _, Nat.zero_le _⟩) rfl ?_
              refine lv_bipush (v := 8) hx hb dX10_can_70 (by decide) ?_
              refine lv_icmp_ne (tgt := 79) hx hb dX10_can_72 (by decide) (fun c18 => ?_) (fun c18 => ?_)
              · replace hf := if_f hf c18
                refine lv_iconst (v := 0) hx hb dX10_can_79 (by decide) ?_
                refine lv_istore (lv' := [(4, .int (0 : Int32)), (0, .ref ot), (1, .int v1), (2, .int v2), (3, .int v3), (5, .int (stL4.2))]) hx hb dX10_can_80 hl (by decide) rfl (fun ls hl => ?_)
                refine lv_iload hx hb dX10_can_82 (lv_at hl 0 rfl) ?_
                refine lv_if_ne (tgt := 108) hx hb dX10_can_84 (by decide) (fun c => absurd c (by decide)) (fun _ => ?_)
                refine lv_aload_n hx hb dX10_can_87 rfl (lv_at hl 1 rfl) ?_
                refine lv_iload_n hx hb dX10_can_88 rfl (lv_at hl 2 rfl) ?_
                refine lv_iload hx hb dX10_can_89 (lv_at hl 5 rfl) ?_
                obtain ⟨r19, hcr19, hf⟩ := bd_some hf
                refine p_R (st1 := [.int r19]) (run_V (rest := []) X (ctX10_sort hZ ot aMO hcr19) mk_X10_sort ml_X10_55 ⟨(Nat.le_of_ble_eq_true rfl), (Nat.le_of_ble_eq_true rfl)⟩ G [0, 1, 2, 3, 4, 5, 6, 7] rfl rfl 0 rfl rfl rfl hl.1 rfl (Nat.le_of_ble_eq_true rfl) dX10_can_91 ⟨Nat.zero_le _, Nat.zero_le _⟩) rfl ?_
                refine lv_bipush (v := 9) hx hb dX10_can_94 (by decide) ?_
                refine lv_icmp_ne (tgt := 102) hx hb dX10_can_96 (by decide) (fun c20 => ?_) (fun c20 => ?_)
                · replace hf := if_f hf c20
                  obtain ⟨x21, ex21, hf⟩ := nm_some hf
                  refine lv_iinc (v := x21) (lv' := [(5, .int x21), (4, .int (0 : Int32)), (0, .ref ot), (1, .int v1), (2, .int v2), (3, .int v3)]) hx hb dX10_can_102 hl (k := 5) rfl (by subst ex21; rfl) (by decide) rfl (fun ls hl => ?_)
                  refine lv_goto (tgt := 20) hx hb dX10_can_105 (by decide) ?_
                  cases hf
                  exact ih ((0 : Int32), x21) _ (lv_sub hl [2, 3, 4, 5, 1, 0] rfl) hoL4
                · replace hf := if_t hf c20
                  cases hf
                  exact KL4_2 (0 : Int32) _ (it_out hoL4) (lv_sub hl [1, 2, 3, 4, 0] rfl)
              · replace hf := if_t hf c18
                refine lv_iconst (v := 1) hx hb dX10_can_75 (by decide) ?_
                refine lv_goto (tgt := 80) hx hb dX10_can_76 (by decide) ?_
                refine lv_istore (lv' := [(4, .int (1 : Int32)), (0, .ref ot), (1, .int v1), (2, .int v2), (3, .int v3), (5, .int (stL4.2))]) hx hb dX10_can_80 hl (by decide) rfl (fun ls hl => ?_)
                refine lv_iload hx hb dX10_can_82 (lv_at hl 0 rfl) ?_
                refine lv_if_ne (tgt := 108) hx hb dX10_can_84 (by decide) (fun _ => ?_) (fun c => absurd c (by decide))
                cases hf
                exact KL4_0 (1 : Int32) _ (it_out hoL4) (lv_sub hl [1, 2, 3, 4, 0] rfl)
            · replace hf := if_t hf c16
              cases hf
              exact KL4_1 () _ (it_out hoL4) (lv_sub hl [] rfl)
    exact LL4 nL4 ((0 : Int32), r3) _ (lv_sub hl [2, 3, 4, 5, 1, 0] rfl) hitL4
  · replace hf := if_f hf c2
    refine lv_iconst (v := 0) hx hb dX10_can_8 (by decide) ?_
    cases hf
    exact e_rz _ rfl X dX10_can_9
theorem mk_X10_can : MV yX10_can cX10_can 6 (some .boolean) 3 := ⟨co_X10_can, in_X10, im_X10_can, se_X10_can, by decide +kernel, by decide +kernel⟩
noncomputable def FX10_waitsFor_75 (MO : MoT) (v1 : Int32) (r3 : Int32) (r4 : Int32) : (Int32 × Int32) → Option ((Int32 × Int32) ⊕ (Int32)) := fun stL7 =>
  (FX10_workers MO).bind fun r8 =>
  if r8 ≤ stL7.2 then (
    some (.inr stL7.1)
  ) else (
    if stL7.2 = v1 then (
      nm (stL7.2 + 1) fun x11 =>
      some (.inl (stL7.1, x11))
    ) else (
      if r3 = (3 : Int32) then (
        (FX10_can MO stL7.2 (4 : Int32) r4).bind fun r18 =>
        if (bI r18) = 0 then (
          nm (stL7.2 + 1) fun x20 =>
          some (.inl (stL7.1, x20))
        ) else (
          nm (stL7.1 ||| ((1 : Int32) <<< (stL7.2 &&& 31))) fun x21 =>
          nm (stL7.2 + 1) fun x22 =>
          some (.inl (x21, x22))
        )
      ) else (
        (FX10_can MO stL7.2 (3 : Int32) r4).bind fun r13 =>
        if (bI r13) = 0 then (
          nm (stL7.2 + 1) fun x15 =>
          some (.inl (stL7.1, x15))
        ) else (
          nm (stL7.1 ||| ((1 : Int32) <<< (stL7.2 &&& 31))) fun x16 =>
          nm (stL7.2 + 1) fun x17 =>
          some (.inl (x16, x17))
        )
      )
    )
  )
noncomputable def FX10_waitsFor (MO : MoT) (v1 : Int32) : Option (Int32) :=
  (FX10_isHeldUp MO v1).bind fun r1 =>
  if (bI r1) = 0 then (
    some (0 : Int32)
  ) else (
    (FX10_sortNow MO v1).bind fun r3 =>
    (FX10_numberNow MO v1).bind fun r4 =>
    if r3 = (1 : Int32) then (
      nm (((Mo_b MO) + (240 : Int32)) + r4) fun x25 =>
      ix x25 9519 <|
      some ((1 : Int32) <<< ((Mo_all MO (Int32.toNatClampNeg x25)) &&& 31))
    ) else (
      if r3 = (6 : Int32) then (
        (FX10_can MO r4 (5 : Int32) v1).bind fun r23 =>
        if (bI r23) = 0 then (
          some (0 : Int32)
        ) else (
          some ((1 : Int32) <<< (r4 &&& 31))
        )
      ) else (
        (itr (FX10_waitsFor_75 MO v1 r3 r4) ((0 : Int32), (0 : Int32))).bind fun uL7 =>
        some uL7
      )
    )
  )
set_option maxHeartbeats 4000000 in
set_option maxRecDepth 100000 in
theorem ctX10_waitsFor {l : Launch} {D : va_G} {k : Nat → ClassId} {Z : ZT} (hZ : ZOK Z) (ot : Nat) (aMO : Nat → Nat) {MO : MoT} {v1 : Int32} {q : Int32} (hf : FX10_waitsFor MO v1 = some q) :
    CR l D k Z yX10_waitsFor cX10_waitsFor 6 (some .int) 4 86 [.ref ot, .int v1] (some (.int q)) (kMo k ot aMO (MO)) := by
  refine CR.start hZ (by decide) (Nat.le_of_ble_eq_true rfl) ?_
  intro p e s m below meth c ls X hl G
  have hx := X.1
  have hb := X.2.1
  have hl : lv_has ls 6 [(0, .ref ot), (1, .int v1)] := hl
  unfold FX10_waitsFor at hf
  refine lv_aload_n hx hb dX10_waitsFor_0 rfl (lv_at hl 0 rfl) ?_
  refine lv_iload_n hx hb dX10_waitsFor_1 rfl (lv_at hl 1 rfl) ?_
  obtain ⟨r1, hcr1, hf⟩ := bd_some hf
  refine p_R (st1 := [.int (bI r1)]) (run_V (rest := []) X (ctX10_isHeldUp hZ ot aMO hcr1) mk_X10_isHeldUp ml_X10_84 ⟨(Nat.le_of_ble_eq_true rfl), (Nat.le_of_ble_eq_true rfl)⟩ G [0, 1, 2, 3, 4, 5, 6, 7] rfl rfl 0 rfl rfl rfl hl.1 rfl (Nat.le_of_ble_eq_true rfl) dX10_waitsFor_2 ⟨Nat.zero_le _, Nat.zero_le _⟩) rfl ?_
  refine lv_if_ne (tgt := 10) hx hb dX10_waitsFor_5 (by decide) (fun c2 => ?_) (fun c2 => ?_)
  · replace hf := if_f hf c2
    refine lv_aload_n hx hb dX10_waitsFor_10 rfl (lv_at hl 0 rfl) ?_
    refine lv_iload_n hx hb dX10_waitsFor_11 rfl (lv_at hl 1 rfl) ?_
    obtain ⟨r3, hcr3, hf⟩ := bd_some hf
    refine p_R (st1 := [.int r3]) (run_V (rest := []) X (ctX10_sortNow hZ ot aMO hcr3) mk_X10_sortNow ml_X10_62 ⟨(Nat.le_of_ble_eq_true rfl), (Nat.le_of_ble_eq_true rfl)⟩ G [0, 1, 2, 3, 4, 5, 6, 7] rfl rfl 0 rfl rfl rfl hl.1 rfl (Nat.le_of_ble_eq_true rfl) dX10_waitsFor_12 ⟨Nat.zero_le _, Nat.zero_le _⟩) rfl ?_
    refine lv_istore_n (lv' := [(2, .int r3), (0, .ref ot), (1, .int v1)]) hx hb dX10_waitsFor_15 rfl hl (by decide) rfl (fun ls hl => ?_)
    refine lv_aload_n hx hb dX10_waitsFor_16 rfl (lv_at hl 1 rfl) ?_
    refine lv_iload_n hx hb dX10_waitsFor_17 rfl (lv_at hl 2 rfl) ?_
    obtain ⟨r4, hcr4, hf⟩ := bd_some hf
    refine p_R (st1 := [.int r4]) (run_V (rest := []) X (ctX10_numberNow hZ ot aMO hcr4) mk_X10_numberNow ml_X10_68 ⟨(Nat.le_of_ble_eq_true rfl), (Nat.le_of_ble_eq_true rfl)⟩ G [0, 1, 2, 3, 4, 5, 6, 7] rfl rfl 0 rfl rfl rfl hl.1 rfl (Nat.le_of_ble_eq_true rfl) dX10_waitsFor_18 ⟨Nat.zero_le _, Nat.zero_le _⟩) rfl ?_
    refine lv_istore_n (lv' := [(3, .int r4), (2, .int r3), (0, .ref ot), (1, .int v1)]) hx hb dX10_waitsFor_21 rfl hl (by decide) rfl (fun ls hl => ?_)
    refine lv_iload_n hx hb dX10_waitsFor_22 rfl (lv_at hl 1 rfl) ?_
    refine lv_iconst (v := 1) hx hb dX10_waitsFor_23 (by decide) ?_
    refine lv_icmp_ne (tgt := 45) hx hb dX10_waitsFor_24 (by decide) (fun c5 => ?_) (fun c5 => ?_)
    · replace hf := if_f hf c5
      refine lv_iload_n hx hb dX10_waitsFor_45 rfl (lv_at hl 1 rfl) ?_
      refine lv_bipush (v := 6) hx hb dX10_waitsFor_46 (by decide) ?_
      refine lv_icmp_ne (tgt := 69) hx hb dX10_waitsFor_48 (by decide) (fun c6 => ?_) (fun c6 => ?_)
      · replace hf := if_f hf c6
        refine lv_iconst (v := 0) hx hb dX10_waitsFor_69 (by decide) ?_
        refine lv_istore (lv' := [(4, .int (0 : Int32)), (3, .int r4), (2, .int r3), (0, .ref ot), (1, .int v1)]) hx hb dX10_waitsFor_70 hl (by decide) rfl (fun ls hl => ?_)
        refine lv_iconst (v := 0) hx hb dX10_waitsFor_72 (by decide) ?_
        refine lv_istore (lv' := [(5, .int (0 : Int32)), (4, .int (0 : Int32)), (3, .int r4), (2, .int r3), (0, .ref ot), (1, .int v1)]) hx hb dX10_waitsFor_73 hl (by decide) rfl (fun ls hl => ?_)
        obtain ⟨exL7, hitL7, hfL7⟩ := bd_some hf
        obtain ⟨nL7, hitL7⟩ := itr_ex hitL7
        have KL7_0 : ∀ (u : Int32) (ls : Array Slot), exL7 = u → lv_has ls 6 [(4, .int u)] → W p l e (rmz 4 86) s m [.ref ot, .int v1].toArray below meth c s.heap [] 0 0 (MQ below (Qr (some (.int q))) [.ref ot, .int v1].toArray s 0 0 (fun _ => False)) (F0 m 125 ls []) := by
          intro uL7 ls hex hl
          rw [hex] at hfL7
          have hf := hfL7
          refine lv_iload hx hb dX10_waitsFor_125 (lv_at hl 0 rfl) ?_
          cases hf
          exact e_ri X dX10_waitsFor_127
        have LL7 : ∀ (n : Nat) (stL7 : Int32 × Int32) (ls : Array Slot), lv_has ls 6 [(0, .ref ot), (1, .int v1), (2, .int r3), (3, .int r4), (4, .int (stL7.1)), (5, .int (stL7.2))] → it (FX10_waitsFor_75 MO v1 r3 r4) n stL7 = some exL7 → W p l e (rmz 4 86) s m [.ref ot, .int v1].toArray below meth c s.heap [] 0 0 (MQ below (Qr (some (.int q))) [.ref ot, .int v1].toArray s 0 0 (fun _ => False)) (F0 m 75 ls []) := by
          intro n
          induction n with
          | zero =>
            intro stL7 ls hl hit
            exact (it_zero hit).elim
          | succ n ih =>
            intro stL7 ls hl hit
            obtain ⟨oL7, hf, hoL7⟩ := it_bd hit
            unfold FX10_waitsFor_75 at hf
            refine lv_iload hx hb dX10_waitsFor_75 (lv_at hl 5 rfl) ?_
            refine lv_aload_n hx hb dX10_waitsFor_77 rfl (lv_at hl 0 rfl) ?_
            obtain ⟨r8, hcr8, hf⟩ := bd_some hf
            refine p_R (st1 := [.int r8, .int (stL7.2)]) (run_V (rest := [.int (stL7.2)]) X (ctX10_workers hZ ot aMO hcr8) mk_X10_workers ml_X10_43 ⟨(Nat.le_of_ble_eq_true rfl), (Nat.le_of_ble_eq_true rfl)⟩ G [0, 1, 2, 3, 4, 5, 6, 7] rfl rfl 0 rfl rfl rfl hl.1 rfl (Nat.le_of_ble_eq_true rfl) dX10_waitsFor_78 ⟨Nat.zero_le _, Nat.zero_le _⟩) rfl ?_
            refine lv_icmp_ge (tgt := 125) hx hb dX10_waitsFor_81 (by decide) (fun c9 => ?_) (fun c9 => ?_)
            · replace hf := if_t hf c9
              cases hf
              exact KL7_0 stL7.1 _ (it_out hoL7) (lv_sub hl [4] rfl)
            · replace hf := if_f hf c9
              refine lv_iload hx hb dX10_waitsFor_84 (lv_at hl 5 rfl) ?_
              refine lv_iload_n hx hb dX10_waitsFor_86 rfl (lv_at hl 1 rfl) ?_
              refine lv_icmp_eq (tgt := 119) hx hb dX10_waitsFor_87 (by decide) (fun c10 => ?_) (fun c10 => ?_)
              · replace hf := if_t hf c10
                obtain ⟨x11, ex11, hf⟩ := nm_some hf
                refine lv_iinc (v := x11) (lv' := [(5, .int x11), (0, .ref ot), (1, .int v1), (2, .int r3), (3, .int r4), (4, .int (stL7.1))]) hx hb dX10_waitsFor_119 hl (k := 5) rfl (by subst ex11; rfl) (by decide) rfl (fun ls hl => ?_)
                refine lv_goto (tgt := 75) hx hb dX10_waitsFor_122 (by decide) ?_
                cases hf
                exact ih (stL7.1, x11) _ (lv_sub hl [1, 2, 3, 4, 5, 0] rfl) hoL7
              · replace hf := if_f hf c10
                refine lv_aload_n hx hb dX10_waitsFor_90 rfl (lv_at hl 0 rfl) ?_
                refine lv_iload hx hb dX10_waitsFor_91 (lv_at hl 5 rfl) ?_
                refine lv_iload_n hx hb dX10_waitsFor_93 rfl (lv_at hl 2 rfl) ?_
                refine lv_iconst (v := 3) hx hb dX10_waitsFor_94 (by decide) ?_
                refine lv_icmp_ne (tgt := 102) hx hb dX10_waitsFor_95 (by decide) (fun c12 => ?_) (fun c12 => ?_)
                · replace hf := if_f hf c12
                  refine lv_iconst (v := 3) hx hb dX10_waitsFor_102 (by decide) ?_
                  refine lv_iload_n hx hb dX10_waitsFor_103 rfl (lv_at hl 3 rfl) ?_
                  obtain ⟨r13, hcr13, hf⟩ := bd_some hf
                  refine p_R (st1 := [.int (bI r13)]) (run_V (rest := []) X (ctX10_can hZ ot aMO hcr13) mk_X10_can ml_X10_87 ⟨(Nat.le_of_ble_eq_true rfl), (Nat.le_of_ble_eq_true rfl)⟩ G [0, 1, 2, 3, 4, 5, 6, 7] rfl rfl 0 rfl rfl rfl hl.1 rfl (Nat.le_of_ble_eq_true rfl) dX10_waitsFor_104 ⟨Nat.zero_le _, Nat.zero_le _⟩) rfl ?_
                  refine lv_if_eq (tgt := 119) hx hb dX10_waitsFor_107 (by decide) (fun c14 => ?_) (fun c14 => ?_)
                  · replace hf := if_t hf c14
                    obtain ⟨x15, ex15, hf⟩ := nm_some hf
                    refine lv_iinc (v := x15) (lv' := [(5, .int x15), (0, .ref ot), (1, .int v1), (2, .int r3), (3, .int r4), (4, .int (stL7.1))]) hx hb dX10_waitsFor_119 hl (k := 5) rfl (by subst ex15; rfl) (by decide) rfl (fun ls hl => ?_)
                    refine lv_goto (tgt := 75) hx hb dX10_waitsFor_122 (by decide) ?_
                    cases hf
                    exact ih (stL7.1, x15) _ (lv_sub hl [1, 2, 3, 4, 5, 0] rfl) hoL7
                  · replace hf := if_f hf c14
                    refine lv_iload hx hb dX10_waitsFor_110 (lv_at hl 4 rfl) ?_
                    refine lv_iconst (v := 1) hx hb dX10_waitsFor_112 (by decide) ?_
                    refine lv_iload hx hb dX10_waitsFor_113 (lv_at hl 5 rfl) ?_
                    refine lv_ishl hx hb dX10_waitsFor_115 ?_
                    refine lv_ior hx hb dX10_waitsFor_116 ?_
                    obtain ⟨x16, ex16, hf⟩ := nm_some hf
                    refine r_top (congrArg Value.int ex16) ?_
                    refine lv_istore (lv' := [(4, .int x16), (0, .ref ot), (1, .int v1), (2, .int r3), (3, .int r4), (5, .int (stL7.2))]) hx hb dX10_waitsFor_117 hl (by decide) rfl (fun ls hl => ?_)
                    obtain ⟨x17, ex17, hf⟩ := nm_some hf
                    refine lv_iinc (v := x17) (lv' := [(5, .int x17), (4, .int x16), (0, .ref ot), (1, .int v1), (2, .int r3), (3, .int r4)]) hx hb dX10_waitsFor_119 hl (k := 5) rfl (by subst ex17; rfl) (by decide) rfl (fun ls hl => ?_)
                    refine lv_goto (tgt := 75) hx hb dX10_waitsFor_122 (by decide) ?_
                    cases hf
                    exact ih (x16, x17) _ (lv_sub hl [2, 3, 4, 5, 1, 0] rfl) hoL7
                · replace hf := if_t hf c12
                  refine lv_iconst (v := 4) hx hb dX10_waitsFor_98 (by decide) ?_
                  refine lv_goto (tgt := 103) hx hb dX10_waitsFor_99 (by decide) ?_
                  refine lv_iload_n hx hb dX10_waitsFor_103 rfl (lv_at hl 3 rfl) ?_
                  obtain ⟨r18, hcr18, hf⟩ := bd_some hf
                  refine p_R (st1 := [.int (bI r18)]) (run_V (rest := []) X (ctX10_can hZ ot aMO hcr18) mk_X10_can ml_X10_87 ⟨(Nat.le_of_ble_eq_true rfl), (Nat.le_of_ble_eq_true rfl)⟩ G [0, 1, 2, 3, 4, 5, 6, 7] rfl rfl 0 rfl rfl rfl hl.1 rfl (Nat.le_of_ble_eq_true rfl) dX10_waitsFor_104 ⟨Nat.zero_le _, Nat.zero_le _⟩) rfl ?_
                  refine lv_if_eq (tgt := 119) hx hb dX10_waitsFor_107 (by decide) (fun c19 => ?_) (fun c19 => ?_)
                  · replace hf := if_t hf c19
                    obtain ⟨x20, ex20, hf⟩ := nm_some hf
                    refine lv_iinc (v := x20) (lv' := [(5, .int x20), (0, .ref ot), (1, .int v1), (2, .int r3), (3, .int r4), (4, .int (stL7.1))]) hx hb dX10_waitsFor_119 hl (k := 5) rfl (by subst ex20; rfl) (by decide) rfl (fun ls hl => ?_)
                    refine lv_goto (tgt := 75) hx hb dX10_waitsFor_122 (by decide) ?_
                    cases hf
                    exact ih (stL7.1, x20) _ (lv_sub hl [1, 2, 3, 4, 5, 0] rfl) hoL7
                  · replace hf := if_f hf c19
                    refine lv_iload hx hb dX10_waitsFor_110 (lv_at hl 4 rfl) ?_
                    refine lv_iconst (v := 1) hx hb dX10_waitsFor_112 (by decide) ?_
                    refine lv_iload hx hb dX10_waitsFor_113 (lv_at hl 5 rfl) ?_
                    refine lv_ishl hx hb dX10_waitsFor_115 ?_
                    refine lv_ior hx hb dX10_waitsFor_116 ?_
                    obtain ⟨x21, ex21, hf⟩ := nm_some hf
                    refine r_top (congrArg Value.int ex21) ?_
                    refine lv_istore (lv' := [(4, .int x21), (0, .ref ot), (1, .int v1), (2, .int r3), (3, .int r4), (5, .int (stL7.2))]) hx hb dX10_waitsFor_117 hl (by decide) rfl (fun ls hl => ?_)
                    obtain ⟨x22, ex22, hf⟩ := nm_some hf
                    refine lv_iinc (v := x22) (lv' := [(5, .int x22), (4, .int x21), (0, .ref ot), (1, .int v1), (2, .int r3), (3, .int r4)]) hx hb dX10_waitsFor_119 hl (k := 5) rfl (by subst ex22; rfl) (by decide) rfl (fun ls hl => ?_)
                    refine lv_goto (tgt := 75) hx hb dX10_waitsFor_122 (by decide) ?_
                    cases hf
                    exact ih (x21, x22) _ (lv_sub hl [2, 3, 4, 5, 1, 0] rfl) hoL7
        exact LL7 nL7 ((0 : Int32), (0 : Int32)) _ (lv_sub hl [4, 5, 3, 2, 1, 0] rfl) hitL7
      · replace hf := if_t hf c6
        refine lv_aload_n hx hb dX10_waitsFor_51 rfl (lv_at hl 2 rfl) ?_
        refine lv_iload_n hx hb dX10_waitsFor_52 rfl (lv_at hl 0 rfl) ?_
        refine lv_iconst (v := 5) hx hb dX10_waitsFor_53 (by decide) ?_
        refine lv_iload_n hx hb dX10_waitsFor_54 rfl (lv_at hl 3 rfl) ?_
        obtain ⟨r23, hcr23, hf⟩ := bd_some hf
        refine p_R (st1 := [.int (bI r23)]) (run_V (rest := []) X (ctX10_can hZ ot aMO hcr23) mk_X10_can ml_X10_87 ⟨(Nat.le_of_ble_eq_true rfl), (Nat.le_of_ble_eq_true rfl)⟩ G [0, 1, 2, 3, 4, 5, 6, 7] rfl rfl 0 rfl rfl rfl hl.1 rfl (Nat.le_of_ble_eq_true rfl) dX10_waitsFor_55 ⟨Nat.zero_le _, Nat.zero_le _⟩) rfl ?_
        refine lv_if_eq (tgt := 67) hx hb dX10_waitsFor_58 (by decide) (fun c24 => ?_) (fun c24 => ?_)
        · replace hf := if_t hf c24
          refine lv_iconst (v := 0) hx hb dX10_waitsFor_67 (by decide) ?_
          cases hf
          exact e_ri X dX10_waitsFor_68
        · replace hf := if_f hf c24
          refine lv_iconst (v := 1) hx hb dX10_waitsFor_61 (by decide) ?_
          refine lv_iload_n hx hb dX10_waitsFor_62 rfl (lv_at hl 0 rfl) ?_
          refine lv_ishl hx hb dX10_waitsFor_63 ?_
          refine lv_goto (tgt := 68) hx hb dX10_waitsFor_64 (by decide) ?_
          cases hf
          exact e_ri X dX10_waitsFor_68
    · replace hf := if_t hf c5
      refine lv_iconst (v := 1) hx hb dX10_waitsFor_27 (by decide) ?_
      refine lv_aload_n hx hb dX10_waitsFor_28 rfl (lv_at hl 2 rfl) ?_
      refine r_get X inw_X10 G 0 rfl rfl 0 (by decide) fl_X10_7 (v := .ref (aMO 0)) rfl dX10_waitsFor_29 ?_
      refine lv_aload_n hx hb dX10_waitsFor_32 rfl (lv_at hl 2 rfl) ?_
      refine r_get X inw_X10 G 0 rfl rfl 7 (by decide) fl_X10_40 (v := .int (Mo_b MO)) rfl dX10_waitsFor_33 ?_
      refine lv_sipush (v := 240) hx hb dX10_waitsFor_36 (by decide) ?_
      refine lv_iadd hx hb dX10_waitsFor_39 ?_
      refine lv_iload_n hx hb dX10_waitsFor_40 rfl (lv_at hl 0 rfl) ?_
      refine lv_iadd hx hb dX10_waitsFor_41 ?_
      obtain ⟨x25, ex25, hf⟩ := nm_some hf
      refine r_top (congrArg Value.int ex25) ?_
      obtain ⟨h26, hf⟩ := ix_some hf
      refine r_iald X G 1 rfl h26 dX10_waitsFor_42 ?_
      refine lv_ishl hx hb dX10_waitsFor_43 ?_
      cases hf
      exact e_ri X dX10_waitsFor_44
  · replace hf := if_t hf c2
    refine lv_iconst (v := 0) hx hb dX10_waitsFor_8 (by decide) ?_
    cases hf
    exact e_ri X dX10_waitsFor_9
theorem mk_X10_waitsFor : MV yX10_waitsFor cX10_waitsFor 6 (some .int) 1 := ⟨co_X10_waitsFor, in_X10, im_X10_waitsFor, se_X10_waitsFor, by decide +kernel, by decide +kernel⟩
noncomputable def FX10_freeToGo_4 (MO : MoT) : (Int32 × Int32) → Option ((Int32 × Int32) ⊕ (Int32)) := fun stL1 =>
  (FX10_workers MO).bind fun r2 =>
  if r2 ≤ stL1.2 then (
    some (.inr stL1.1)
  ) else (
    (FX10_isEnded MO stL1.2).bind fun r4 =>
    if (bI r4) = 0 then (
      (FX10_isHeldUp MO stL1.2).bind fun r7 =>
      if (bI r7) = 0 then (
        nm (stL1.1 ||| ((1 : Int32) <<< (stL1.2 &&& 31))) fun x10 =>
        nm (stL1.2 + 1) fun x11 =>
        some (.inl (x10, x11))
      ) else (
        nm (stL1.2 + 1) fun x9 =>
        some (.inl (stL1.1, x9))
      )
    ) else (
      nm (stL1.2 + 1) fun x6 =>
      some (.inl (stL1.1, x6))
    )
  )
noncomputable def FX10_freeToGo_52 (MO : MoT) : (Int32 × Int32) → Option ((Int32 × Int32) ⊕ (Int32)) := fun stL15 =>
  (FX10_workers MO).bind fun r16 =>
  if r16 ≤ stL15.2 then (
    some (.inr stL15.1)
  ) else (
    (FX10_isEnded MO stL15.2).bind fun r18 =>
    if (bI r18) = 0 then (
      (FX10_waitsFor MO stL15.2).bind fun r21 =>
      if (r21 &&& stL15.1) = 0 then (
        nm (stL15.2 + 1) fun x23 =>
        some (.inl (stL15.1, x23))
      ) else (
        nm (stL15.1 ||| ((1 : Int32) <<< (stL15.2 &&& 31))) fun x24 =>
        nm (stL15.2 + 1) fun x25 =>
        some (.inl (x24, x25))
      )
    ) else (
      nm (stL15.2 + 1) fun x20 =>
      some (.inl (stL15.1, x20))
    )
  )
noncomputable def FX10_freeToGo_42 (MO : MoT) : (Int32 × Int32) → Option ((Int32 × Int32) ⊕ (Int32)) := fun stL12 =>
  (FX10_workers MO).bind fun r13 =>
  if r13 ≤ stL12.2 then (
    some (.inr stL12.1)
  ) else (
    (itr (FX10_freeToGo_52 MO) (stL12.1, (0 : Int32))).bind fun uL15 =>
    nm (stL12.2 + 1) fun x26 =>
    some (.inl (uL15, x26))
  )
noncomputable def FX10_freeToGo (MO : MoT) : Option (Int32) :=
  (itr (FX10_freeToGo_4 MO) ((0 : Int32), (0 : Int32))).bind fun uL1 =>
  (itr (FX10_freeToGo_42 MO) (uL1, (0 : Int32))).bind fun uL12 =>
  some uL12
set_option maxHeartbeats 4000000 in
set_option maxRecDepth 100000 in
theorem ctX10_freeToGo {l : Launch} {D : va_G} {k : Nat → ClassId} {Z : ZT} (hZ : ZOK Z) (ot : Nat) (aMO : Nat → Nat) {MO : MoT} {q : Int32} (hf : FX10_freeToGo MO = some q) :
    CR l D k Z yX10_freeToGo cX10_freeToGo 4 (some .int) 5 111 [.ref ot] (some (.int q)) (kMo k ot aMO (MO)) := by
  refine CR.start hZ (by decide) (Nat.le_of_ble_eq_true rfl) ?_
  intro p e s m below meth c ls X hl G
  have hx := X.1
  have hb := X.2.1
  have hl : lv_has ls 4 [(0, .ref ot)] := hl
  unfold FX10_freeToGo at hf
  refine lv_iconst (v := 0) hx hb dX10_freeToGo_0 (by decide) ?_
  refine lv_istore_n (lv' := [(1, .int (0 : Int32)), (0, .ref ot)]) hx hb dX10_freeToGo_1 rfl hl (by decide) rfl (fun ls hl => ?_)
  refine lv_iconst (v := 0) hx hb dX10_freeToGo_2 (by decide) ?_
  refine lv_istore_n (lv' := [(2, .int (0 : Int32)), (1, .int (0 : Int32)), (0, .ref ot)]) hx hb dX10_freeToGo_3 rfl hl (by decide) rfl (fun ls hl => ?_)
  obtain ⟨exL1, hitL1, hfL1⟩ := bd_some hf
  obtain ⟨nL1, hitL1⟩ := itr_ex hitL1
  have KL1_0 : ∀ (u : Int32) (ls : Array Slot), exL1 = u → lv_has ls 4 [(0, .ref ot), (1, .int u)] → W p l e (rmz 5 111) s m [.ref ot].toArray below meth c s.heap [] 0 0 (MQ below (Qr (some (.int q))) [.ref ot].toArray s 0 0 (fun _ => False)) (F0 m 40 ls []) := by
    intro uL1 ls hex hl
    rw [hex] at hfL1
    have hf := hfL1
    refine lv_iconst (v := 0) hx hb dX10_freeToGo_40 (by decide) ?_
    refine lv_istore_n (lv' := [(2, .int (0 : Int32)), (0, .ref ot), (1, .int uL1)]) hx hb dX10_freeToGo_41 rfl hl (by decide) rfl (fun ls hl => ?_)
    obtain ⟨exL12, hitL12, hfL12⟩ := bd_some hf
    obtain ⟨nL12, hitL12⟩ := itr_ex hitL12
    have KL12_0 : ∀ (u : Int32) (ls : Array Slot), exL12 = u → lv_has ls 4 [(1, .int u)] → W p l e (rmz 5 111) s m [.ref ot].toArray below meth c s.heap [] 0 0 (MQ below (Qr (some (.int q))) [.ref ot].toArray s 0 0 (fun _ => False)) (F0 m 96 ls []) := by
      intro uL12 ls hex hl
      rw [hex] at hfL12
      have hf := hfL12
      refine lv_iload_n hx hb dX10_freeToGo_96 rfl (lv_at hl 0 rfl) ?_
      cases hf
      exact e_ri X dX10_freeToGo_97
    have LL12 : ∀ (n : Nat) (stL12 : Int32 × Int32) (ls : Array Slot), lv_has ls 4 [(0, .ref ot), (1, .int (stL12.1)), (2, .int (stL12.2))] → it (FX10_freeToGo_42 MO) n stL12 = some exL12 → W p l e (rmz 5 111) s m [.ref ot].toArray below meth c s.heap [] 0 0 (MQ below (Qr (some (.int q))) [.ref ot].toArray s 0 0 (fun _ => False)) (F0 m 42 ls []) := by
      intro n
      induction n with
      | zero =>
        intro stL12 ls hl hit
        exact (it_zero hit).elim
      | succ n ih =>
        intro stL12 ls hl hit
        obtain ⟨oL12, hf, hoL12⟩ := it_bd hit
        unfold FX10_freeToGo_42 at hf
        refine lv_iload_n hx hb dX10_freeToGo_42 rfl (lv_at hl 2 rfl) ?_
        refine lv_aload_n hx hb dX10_freeToGo_43 rfl (lv_at hl 0 rfl) ?_
        obtain ⟨r13, hcr13, hf⟩ := bd_some hf
        refine p_R (st1 := [.int r13, .int (stL12.2)]) (run_V (rest := [.int (stL12.2)]) X (ctX10_workers hZ ot aMO hcr13) mk_X10_workers ml_X10_43 ⟨(Nat.le_of_ble_eq_true rfl), (Nat.le_of_ble_eq_true rfl)⟩ G [0, 1, 2, 3, 4, 5, 6, 7] rfl rfl 0 rfl rfl rfl hl.1 rfl (Nat.le_of_ble_eq_true rfl) dX10_freeToGo_44 ⟨Nat.zero_le _, Nat.zero_le _⟩) rfl ?_
        refine lv_icmp_ge (tgt := 96) hx hb dX10_freeToGo_47 (by decide) (fun c14 => ?_) (fun c14 => ?_)
        · replace hf := if_t hf c14
          cases hf
          exact KL12_0 stL12.1 _ (it_out hoL12) (lv_sub hl [1] rfl)
        · replace hf := if_f hf c14
          refine lv_iconst (v := 0) hx hb dX10_freeToGo_50 (by decide) ?_
          refine lv_istore_n (lv' := [(3, .int (0 : Int32)), (0, .ref ot), (1, .int (stL12.1)), (2, .int (stL12.2))]) hx hb dX10_freeToGo_51 rfl hl (by decide) rfl (fun ls hl => ?_)
          obtain ⟨exL15, hitL15, hfL15⟩ := bd_some hf
          obtain ⟨nL15, hitL15⟩ := itr_ex hitL15
          have KL15_0 : ∀ (u : Int32) (ls : Array Slot), exL15 = u → lv_has ls 4 [(0, .ref ot), (1, .int u), (2, .int (stL12.2))] → W p l e (rmz 5 111) s m [.ref ot].toArray below meth c s.heap [] 0 0 (MQ below (Qr (some (.int q))) [.ref ot].toArray s 0 0 (fun _ => False)) (F0 m 90 ls []) := by
            intro uL15 ls hex hl
            rw [hex] at hfL15
            have hf := hfL15
            obtain ⟨x26, ex26, hf⟩ := nm_some hf
            refine lv_iinc (v := x26) (lv' := [(2, .int x26), (0, .ref ot), (1, .int uL15)]) hx hb dX10_freeToGo_90 hl (k := 2) rfl (by subst ex26; rfl) (by decide) rfl (fun ls hl => ?_)
            refine lv_goto (tgt := 42) hx hb dX10_freeToGo_93 (by decide) ?_
            cases hf
            exact ih (uL15, x26) _ (lv_sub hl [1, 2, 0] rfl) hoL12
          have LL15 : ∀ (n : Nat) (stL15 : Int32 × Int32) (ls : Array Slot), lv_has ls 4 [(0, .ref ot), (1, .int (stL15.1)), (2, .int (stL12.2)), (3, .int (stL15.2))] → it (FX10_freeToGo_52 MO) n stL15 = some exL15 → W p l e (rmz 5 111) s m [.ref ot].toArray below meth c s.heap [] 0 0 (MQ below (Qr (some (.int q))) [.ref ot].toArray s 0 0 (fun _ => False)) (F0 m 52 ls []) := by
            intro n
            induction n with
            | zero =>
              intro stL15 ls hl hit
              exact (it_zero hit).elim
            | succ n ih =>
              intro stL15 ls hl hit
              obtain ⟨oL15, hf, hoL15⟩ := it_bd hit
              unfold FX10_freeToGo_52 at hf
              refine lv_iload_n hx hb dX10_freeToGo_52 rfl (lv_at hl 3 rfl) ?_
              refine lv_aload_n hx hb dX10_freeToGo_53 rfl (lv_at hl 0 rfl) ?_
              obtain ⟨r16, hcr16, hf⟩ := bd_some hf
              refine p_R (st1 := [.int r16, .int (stL15.2)]) (run_V (rest := [.int (stL15.2)]) X (ctX10_workers hZ ot aMO hcr16) mk_X10_workers ml_X10_43 ⟨(Nat.le_of_ble_eq_true rfl), (Nat.le_of_ble_eq_true rfl)⟩ G [0, 1, 2, 3, 4, 5, 6, 7] rfl rfl 0 rfl rfl rfl hl.1 rfl (Nat.le_of_ble_eq_true rfl) dX10_freeToGo_54 ⟨Nat.zero_le _, Nat.zero_le _⟩) rfl ?_
              refine lv_icmp_ge (tgt := 90) hx hb dX10_freeToGo_57 (by decide) (fun c17 => ?_) (fun c17 => ?_)
              · replace hf := if_t hf c17
                cases hf
                exact KL15_0 stL15.1 _ (it_out hoL15) (lv_sub hl [0, 1, 2] rfl)
              · replace hf := if_f hf c17
                refine lv_aload_n hx hb dX10_freeToGo_60 rfl (lv_at hl 0 rfl) ?_
                refine lv_iload_n hx hb dX10_freeToGo_61 rfl (lv_at hl 3 rfl) ?_
                obtain ⟨r18, hcr18, hf⟩ := bd_some hf
                refine p_R (st1 := [.int (bI r18)]) (run_V (rest := []) X (ctX10_isEnded hZ ot aMO hcr18) mk_X10_isEnded ml_X10_81 ⟨(Nat.le_of_ble_eq_true rfl), (Nat.le_of_ble_eq_true rfl)⟩ G [0, 1, 2, 3, 4, 5, 6, 7] rfl rfl 0 rfl rfl rfl hl.1 rfl (Nat.le_of_ble_eq_true rfl) dX10_freeToGo_62 ⟨Nat.zero_le _, Nat.zero_le _⟩) rfl ?_
                refine lv_if_ne (tgt := 84) hx hb dX10_freeToGo_65 (by decide) (fun c19 => ?_) (fun c19 => ?_)
                · replace hf := if_f hf c19
                  obtain ⟨x20, ex20, hf⟩ := nm_some hf
                  refine lv_iinc (v := x20) (lv' := [(3, .int x20), (0, .ref ot), (1, .int (stL15.1)), (2, .int (stL12.2))]) hx hb dX10_freeToGo_84 hl (k := 3) rfl (by subst ex20; rfl) (by decide) rfl (fun ls hl => ?_)
                  refine lv_goto (tgt := 52) hx hb dX10_freeToGo_87 (by decide) ?_
                  cases hf
                  exact ih (stL15.1, x20) _ (lv_sub hl [1, 2, 3, 0] rfl) hoL15
                · replace hf := if_t hf c19
                  refine lv_aload_n hx hb dX10_freeToGo_68 rfl (lv_at hl 0 rfl) ?_
                  refine lv_iload_n hx hb dX10_freeToGo_69 rfl (lv_at hl 3 rfl) ?_
                  obtain ⟨r21, hcr21, hf⟩ := bd_some hf
                  refine p_R (st1 := [.int r21]) (run_V (rest := []) X (ctX10_waitsFor hZ ot aMO hcr21) mk_X10_waitsFor ml_X10_90 ⟨(Nat.le_of_ble_eq_true rfl), (Nat.le_of_ble_eq_true rfl)⟩ G [0, 1, 2, 3, 4, 5, 6, 7] rfl rfl 0 rfl rfl rfl hl.1 rfl (Nat.le_of_ble_eq_true rfl) dX10_freeToGo_70 ⟨Nat.zero_le _, Nat.zero_le _⟩) rfl ?_
                  refine lv_iload_n hx hb dX10_freeToGo_73 rfl (lv_at hl 1 rfl) ?_
                  refine lv_iand hx hb dX10_freeToGo_74 ?_
                  refine lv_if_eq (tgt := 84) hx hb dX10_freeToGo_75 (by decide) (fun c22 => ?_) (fun c22 => ?_)
                  · replace hf := if_t hf c22
                    obtain ⟨x23, ex23, hf⟩ := nm_some hf
                    refine lv_iinc (v := x23) (lv' := [(3, .int x23), (0, .ref ot), (1, .int (stL15.1)), (2, .int (stL12.2))]) hx hb dX10_freeToGo_84 hl (k := 3) rfl (by subst ex23; rfl) (by decide) rfl (fun ls hl => ?_)
                    refine lv_goto (tgt := 52) hx hb dX10_freeToGo_87 (by decide) ?_
                    cases hf
                    exact ih (stL15.1, x23) _ (lv_sub hl [1, 2, 3, 0] rfl) hoL15
                  · replace hf := if_f hf c22
                    refine lv_iload_n hx hb dX10_freeToGo_78 rfl (lv_at hl 1 rfl) ?_
                    refine lv_iconst (v := 1) hx hb dX10_freeToGo_79 (by decide) ?_
                    refine lv_iload_n hx hb dX10_freeToGo_80 rfl (lv_at hl 3 rfl) ?_
                    refine lv_ishl hx hb dX10_freeToGo_81 ?_
                    refine lv_ior hx hb dX10_freeToGo_82 ?_
                    obtain ⟨x24, ex24, hf⟩ := nm_some hf
                    refine r_top (congrArg Value.int ex24) ?_
                    refine lv_istore_n (lv' := [(1, .int x24), (0, .ref ot), (2, .int (stL12.2)), (3, .int (stL15.2))]) hx hb dX10_freeToGo_83 rfl hl (by decide) rfl (fun ls hl => ?_)
                    obtain ⟨x25, ex25, hf⟩ := nm_some hf
                    refine lv_iinc (v := x25) (lv' := [(3, .int x25), (1, .int x24), (0, .ref ot), (2, .int (stL12.2))]) hx hb dX10_freeToGo_84 hl (k := 3) rfl (by subst ex25; rfl) (by decide) rfl (fun ls hl => ?_)
                    refine lv_goto (tgt := 52) hx hb dX10_freeToGo_87 (by decide) ?_
                    cases hf
                    exact ih (x24, x25) _ (lv_sub hl [2, 1, 3, 0] rfl) hoL15
          exact LL15 nL15 (stL12.1, (0 : Int32)) _ (lv_sub hl [1, 2, 3, 0] rfl) hitL15
    exact LL12 nL12 (uL1, (0 : Int32)) _ (lv_sub hl [1, 2, 0] rfl) hitL12
  have LL1 : ∀ (n : Nat) (stL1 : Int32 × Int32) (ls : Array Slot), lv_has ls 4 [(0, .ref ot), (1, .int (stL1.1)), (2, .int (stL1.2))] → it (FX10_freeToGo_4 MO) n stL1 = some exL1 → W p l e (rmz 5 111) s m [.ref ot].toArray below meth c s.heap [] 0 0 (MQ below (Qr (some (.int q))) [.ref ot].toArray s 0 0 (fun _ => False)) (F0 m 4 ls []) := by
    intro n
    induction n with
    | zero =>
      intro stL1 ls hl hit
      exact (it_zero hit).elim
    | succ n ih =>
      intro stL1 ls hl hit
      obtain ⟨oL1, hf, hoL1⟩ := it_bd hit
      unfold FX10_freeToGo_4 at hf
      refine lv_iload_n hx hb dX10_freeToGo_4 rfl (lv_at hl 2 rfl) ?_
      refine lv_aload_n hx hb dX10_freeToGo_5 rfl (lv_at hl 0 rfl) ?_
      obtain ⟨r2, hcr2, hf⟩ := bd_some hf
      refine p_R (st1 := [.int r2, .int (stL1.2)]) (run_V (rest := [.int (stL1.2)]) X (ctX10_workers hZ ot aMO hcr2) mk_X10_workers ml_X10_43 ⟨(Nat.le_of_ble_eq_true rfl), (Nat.le_of_ble_eq_true rfl)⟩ G [0, 1, 2, 3, 4, 5, 6, 7] rfl rfl 0 rfl rfl rfl hl.1 rfl (Nat.le_of_ble_eq_true rfl) dX10_freeToGo_6 ⟨Nat.zero_le _, Nat.zero_le _⟩) rfl ?_
      refine lv_icmp_ge (tgt := 40) hx hb dX10_freeToGo_9 (by decide) (fun c3 => ?_) (fun c3 => ?_)
      · replace hf := if_t hf c3
        cases hf
        exact KL1_0 stL1.1 _ (it_out hoL1) (lv_sub hl [0, 1] rfl)
      · replace hf := if_f hf c3
        refine lv_aload_n hx hb dX10_freeToGo_12 rfl (lv_at hl 0 rfl) ?_
        refine lv_iload_n hx hb dX10_freeToGo_13 rfl (lv_at hl 2 rfl) ?_
        obtain ⟨r4, hcr4, hf⟩ := bd_some hf
        refine p_R (st1 := [.int (bI r4)]) (run_V (rest := []) X (ctX10_isEnded hZ ot aMO hcr4) mk_X10_isEnded ml_X10_81 ⟨(Nat.le_of_ble_eq_true rfl), (Nat.le_of_ble_eq_true rfl)⟩ G [0, 1, 2, 3, 4, 5, 6, 7] rfl rfl 0 rfl rfl rfl hl.1 rfl (Nat.le_of_ble_eq_true rfl) dX10_freeToGo_14 ⟨Nat.zero_le _, Nat.zero_le _⟩) rfl ?_
        refine lv_if_ne (tgt := 34) hx hb dX10_freeToGo_17 (by decide) (fun c5 => ?_) (fun c5 => ?_)
        · replace hf := if_f hf c5
          obtain ⟨x6, ex6, hf⟩ := nm_some hf
          refine lv_iinc (v := x6) (lv' := [(2, .int x6), (0, .ref ot), (1, .int (stL1.1))]) hx hb dX10_freeToGo_34 hl (k := 2) rfl (by subst ex6; rfl) (by decide) rfl (fun ls hl => ?_)
          refine lv_goto (tgt := 4) hx hb dX10_freeToGo_37 (by decide) ?_
          cases hf
          exact ih (stL1.1, x6) _ (lv_sub hl [1, 2, 0] rfl) hoL1
        · replace hf := if_t hf c5
          refine lv_aload_n hx hb dX10_freeToGo_20 rfl (lv_at hl 0 rfl) ?_
          refine lv_iload_n hx hb dX10_freeToGo_21 rfl (lv_at hl 2 rfl) ?_
          obtain ⟨r7, hcr7, hf⟩ := bd_some hf
          refine p_R (st1 := [.int (bI r7)]) (run_V (rest := []) X (ctX10_isHeldUp hZ ot aMO hcr7) mk_X10_isHeldUp ml_X10_84 ⟨(Nat.le_of_ble_eq_true rfl), (Nat.le_of_ble_eq_true rfl)⟩ G [0, 1, 2, 3, 4, 5, 6, 7] rfl rfl 0 rfl rfl rfl hl.1 rfl (Nat.le_of_ble_eq_true rfl) dX10_freeToGo_22 ⟨Nat.zero_le _, Nat.zero_le _⟩) rfl ?_
          refine lv_if_ne (tgt := 34) hx hb dX10_freeToGo_25 (by decide) (fun c8 => ?_) (fun c8 => ?_)
          · replace hf := if_f hf c8
            obtain ⟨x9, ex9, hf⟩ := nm_some hf
            refine lv_iinc (v := x9) (lv' := [(2, .int x9), (0, .ref ot), (1, .int (stL1.1))]) hx hb dX10_freeToGo_34 hl (k := 2) rfl (by subst ex9; rfl) (by decide) rfl (fun ls hl => ?_)
            refine lv_goto (tgt := 4) hx hb dX10_freeToGo_37 (by decide) ?_
            cases hf
            exact ih (stL1.1, x9) _ (lv_sub hl [1, 2, 0] rfl) hoL1
          · replace hf := if_t hf c8
            refine lv_iload_n hx hb dX10_freeToGo_28 rfl (lv_at hl 1 rfl) ?_
            refine lv_iconst (v := 1) hx hb dX10_freeToGo_29 (by decide) ?_
            refine lv_iload_n hx hb dX10_freeToGo_30 rfl (lv_at hl 2 rfl) ?_
            refine lv_ishl hx hb dX10_freeToGo_31 ?_
            refine lv_ior hx hb dX10_freeToGo_32 ?_
            obtain ⟨x10, ex10, hf⟩ := nm_some hf
            refine r_top (congrArg Value.int ex10) ?_
            refine lv_istore_n (lv' := [(1, .int x10), (0, .ref ot), (2, .int (stL1.2))]) hx hb dX10_freeToGo_33 rfl hl (by decide) rfl (fun ls hl => ?_)
            obtain ⟨x11, ex11, hf⟩ := nm_some hf
            refine lv_iinc (v := x11) (lv' := [(2, .int x11), (1, .int x10), (0, .ref ot)]) hx hb dX10_freeToGo_34 hl (k := 2) rfl (by subst ex11; rfl) (by decide) rfl (fun ls hl => ?_)
            refine lv_goto (tgt := 4) hx hb dX10_freeToGo_37 (by decide) ?_
            cases hf
            exact ih (x10, x11) _ (lv_sub hl [2, 1, 0] rfl) hoL1
  exact LL1 nL1 ((0 : Int32), (0 : Int32)) _ (lv_sub hl [2, 1, 0] rfl) hitL1
theorem mk_X10_freeToGo : MV yX10_freeToGo cX10_freeToGo 4 (some .int) 0 := ⟨co_X10_freeToGo, in_X10, im_X10_freeToGo, se_X10_freeToGo, by decide +kernel, by decide +kernel⟩
noncomputable def FX10_hard_4 (MO : MoT) : (Int32 × Int32) → Option ((Int32 × Int32) ⊕ (Int32)) := fun stL1 =>
  (FX10_workers MO).bind fun r2 =>
  if r2 ≤ stL1.2 then (
    some (.inr stL1.1)
  ) else (
    (FX10_isEnded MO stL1.2).bind fun r4 =>
    if (bI r4) = 0 then (
      nm (stL1.1 ||| ((1 : Int32) <<< (stL1.2 &&& 31))) fun x7 =>
      nm (stL1.2 + 1) fun x8 =>
      some (.inl (x7, x8))
    ) else (
      nm (stL1.2 + 1) fun x6 =>
      some (.inl (stL1.1, x6))
    )
  )
noncomputable def FX10_hard (MO : MoT) : Option (Int32) :=
  (itr (FX10_hard_4 MO) ((0 : Int32), (0 : Int32))).bind fun uL1 =>
  (FX10_freeToGo MO).bind fun r9 =>
  some (uL1 &&& (r9 ^^^ (-1 : Int32)))
set_option maxHeartbeats 4000000 in
set_option maxRecDepth 100000 in
theorem ctX10_hard {l : Launch} {D : va_G} {k : Nat → ClassId} {Z : ZT} (hZ : ZOK Z) (ot : Nat) (aMO : Nat → Nat) {MO : MoT} {q : Int32} (hf : FX10_hard MO = some q) :
    CR l D k Z yX10_hard cX10_hard 3 (some .int) 6 134 [.ref ot] (some (.int q)) (kMo k ot aMO (MO)) := by
  refine CR.start hZ (by decide) (Nat.le_of_ble_eq_true rfl) ?_
  intro p e s m below meth c ls X hl G
  have hx := X.1
  have hb := X.2.1
  have hl : lv_has ls 3 [(0, .ref ot)] := hl
  unfold FX10_hard at hf
  refine lv_iconst (v := 0) hx hb dX10_hard_0 (by decide) ?_
  refine lv_istore_n (lv' := [(1, .int (0 : Int32)), (0, .ref ot)]) hx hb dX10_hard_1 rfl hl (by decide) rfl (fun ls hl => ?_)
  refine lv_iconst (v := 0) hx hb dX10_hard_2 (by decide) ?_
  refine lv_istore_n (lv' := [(2, .int (0 : Int32)), (1, .int (0 : Int32)), (0, .ref ot)]) hx hb dX10_hard_3 rfl hl (by decide) rfl (fun ls hl => ?_)
  obtain ⟨exL1, hitL1, hfL1⟩ := bd_some hf
  obtain ⟨nL1, hitL1⟩ := itr_ex hitL1
  have KL1_0 : ∀ (u : Int32) (ls : Array Slot), exL1 = u → lv_has ls 3 [(0, .ref ot), (1, .int u)] → W p l e (rmz 6 134) s m [.ref ot].toArray below meth c s.heap [] 0 0 (MQ below (Qr (some (.int q))) [.ref ot].toArray s 0 0 (fun _ => False)) (F0 m 32 ls []) := by
    intro uL1 ls hex hl
    rw [hex] at hfL1
    have hf := hfL1
    refine lv_iload_n hx hb dX10_hard_32 rfl (lv_at hl 1 rfl) ?_
    refine lv_aload_n hx hb dX10_hard_33 rfl (lv_at hl 0 rfl) ?_
    obtain ⟨r9, hcr9, hf⟩ := bd_some hf
    refine p_R (st1 := [.int r9, .int uL1]) (run_V (rest := [.int uL1]) X (ctX10_freeToGo hZ ot aMO hcr9) mk_X10_freeToGo ml_X10_93 ⟨(Nat.le_of_ble_eq_true rfl), (Nat.le_of_ble_eq_true rfl)⟩ G [0, 1, 2, 3, 4, 5, 6, 7] rfl rfl 0 rfl rfl rfl hl.1 rfl (Nat.le_of_ble_eq_true rfl) dX10_hard_34 ⟨Nat.zero_le _, Nat.zero_le _⟩) rfl ?_
    refine lv_iconst (v := -1) hx hb dX10_hard_37 (by decide) ?_
    refine lv_ixor hx hb dX10_hard_38 ?_
    refine lv_iand hx hb dX10_hard_39 ?_
    cases hf
    exact e_ri X dX10_hard_40
  have LL1 : ∀ (n : Nat) (stL1 : Int32 × Int32) (ls : Array Slot), lv_has ls 3 [(0, .ref ot), (1, .int (stL1.1)), (2, .int (stL1.2))] → it (FX10_hard_4 MO) n stL1 = some exL1 → W p l e (rmz 6 134) s m [.ref ot].toArray below meth c s.heap [] 0 0 (MQ below (Qr (some (.int q))) [.ref ot].toArray s 0 0 (fun _ => False)) (F0 m 4 ls []) := by
    intro n
    induction n with
    | zero =>
      intro stL1 ls hl hit
      exact (it_zero hit).elim
    | succ n ih =>
      intro stL1 ls hl hit
      obtain ⟨oL1, hf, hoL1⟩ := it_bd hit
      unfold FX10_hard_4 at hf
      refine lv_iload_n hx hb dX10_hard_4 rfl (lv_at hl 2 rfl) ?_
      refine lv_aload_n hx hb dX10_hard_5 rfl (lv_at hl 0 rfl) ?_
      obtain ⟨r2, hcr2, hf⟩ := bd_some hf
      refine p_R (st1 := [.int r2, .int (stL1.2)]) (run_V (rest := [.int (stL1.2)]) X (ctX10_workers hZ ot aMO hcr2) mk_X10_workers ml_X10_43 ⟨(Nat.le_of_ble_eq_true rfl), (Nat.le_of_ble_eq_true rfl)⟩ G [0, 1, 2, 3, 4, 5, 6, 7] rfl rfl 0 rfl rfl rfl hl.1 rfl (Nat.le_of_ble_eq_true rfl) dX10_hard_6 ⟨Nat.zero_le _, Nat.zero_le _⟩) rfl ?_
      refine lv_icmp_ge (tgt := 32) hx hb dX10_hard_9 (by decide) (fun c3 => ?_) (fun c3 => ?_)
      · replace hf := if_t hf c3
        cases hf
        exact KL1_0 stL1.1 _ (it_out hoL1) (lv_sub hl [0, 1] rfl)
      · replace hf := if_f hf c3
        refine lv_aload_n hx hb dX10_hard_12 rfl (lv_at hl 0 rfl) ?_
        refine lv_iload_n hx hb dX10_hard_13 rfl (lv_at hl 2 rfl) ?_
        obtain ⟨r4, hcr4, hf⟩ := bd_some hf
        refine p_R (st1 := [.int (bI r4)]) (run_V (rest := []) X (ctX10_isEnded hZ ot aMO hcr4) mk_X10_isEnded ml_X10_81 ⟨(Nat.le_of_ble_eq_true rfl), (Nat.le_of_ble_eq_true rfl)⟩ G [0, 1, 2, 3, 4, 5, 6, 7] rfl rfl 0 rfl rfl rfl hl.1 rfl (Nat.le_of_ble_eq_true rfl) dX10_hard_14 ⟨Nat.zero_le _, Nat.zero_le _⟩) rfl ?_
        refine lv_if_ne (tgt := 26) hx hb dX10_hard_17 (by decide) (fun c5 => ?_) (fun c5 => ?_)
        · replace hf := if_f hf c5
          obtain ⟨x6, ex6, hf⟩ := nm_some hf
          refine lv_iinc (v := x6) (lv' := [(2, .int x6), (0, .ref ot), (1, .int (stL1.1))]) hx hb dX10_hard_26 hl (k := 2) rfl (by subst ex6; rfl) (by decide) rfl (fun ls hl => ?_)
          refine lv_goto (tgt := 4) hx hb dX10_hard_29 (by decide) ?_
          cases hf
          exact ih (stL1.1, x6) _ (lv_sub hl [1, 2, 0] rfl) hoL1
        · replace hf := if_t hf c5
          refine lv_iload_n hx hb dX10_hard_20 rfl (lv_at hl 1 rfl) ?_
          refine lv_iconst (v := 1) hx hb dX10_hard_21 (by decide) ?_
          refine lv_iload_n hx hb dX10_hard_22 rfl (lv_at hl 2 rfl) ?_
          refine lv_ishl hx hb dX10_hard_23 ?_
          refine lv_ior hx hb dX10_hard_24 ?_
          obtain ⟨x7, ex7, hf⟩ := nm_some hf
          refine r_top (congrArg Value.int ex7) ?_
          refine lv_istore_n (lv' := [(1, .int x7), (0, .ref ot), (2, .int (stL1.2))]) hx hb dX10_hard_25 rfl hl (by decide) rfl (fun ls hl => ?_)
          obtain ⟨x8, ex8, hf⟩ := nm_some hf
          refine lv_iinc (v := x8) (lv' := [(2, .int x8), (1, .int x7), (0, .ref ot)]) hx hb dX10_hard_26 hl (k := 2) rfl (by subst ex8; rfl) (by decide) rfl (fun ls hl => ?_)
          refine lv_goto (tgt := 4) hx hb dX10_hard_29 (by decide) ?_
          cases hf
          exact ih (x7, x8) _ (lv_sub hl [2, 1, 0] rfl) hoL1
  exact LL1 nL1 ((0 : Int32), (0 : Int32)) _ (lv_sub hl [2, 1, 0] rfl) hitL1
theorem mk_X10_hard : MV yX10_hard cX10_hard 3 (some .int) 0 := ⟨co_X10_hard, in_X10, im_X10_hard, se_X10_hard, by decide +kernel, by decide +kernel⟩
noncomputable def FX10_isSoft (MO : MoT) (v1 : Int32) (v2 : Int32) : Option (Bool) :=
  (FX10_isHeldUp MO v1).bind fun r1 =>
  if (bI r1) = 0 then (
    some false
  ) else (
    (FX10_has v2 v1).bind fun r3 =>
    if (bI r3) = 0 then (
      (FX10_quiet MO v1).bind fun r5 =>
      nm ((Mo_b MO) + (1 : Int32)) fun x6 =>
      ix x6 9519 <|
      if r5 < (Mo_all MO (Int32.toNatClampNeg x6)) then (
        some false
      ) else (
        some true
      )
    ) else (
      some false
    )
  )
set_option maxHeartbeats 4000000 in
set_option maxRecDepth 100000 in
theorem ctX10_isSoft {l : Launch} {D : va_G} {k : Nat → ClassId} {Z : ZT} (hZ : ZOK Z) (ot : Nat) (aMO : Nat → Nat) {MO : MoT} {v1 : Int32} {v2 : Int32} {q : Bool} (hf : FX10_isSoft MO v1 v2 = some q) :
    CR l D k Z yX10_isSoft cX10_isSoft 3 (some .boolean) 4 86 [.ref ot, .int v1, .int v2] (some (.int (bI q))) (kMo k ot aMO (MO)) := by
  refine CR.start hZ (by decide) (Nat.le_of_ble_eq_true rfl) ?_
  intro p e s m below meth c ls X hl G
  have hx := X.1
  have hb := X.2.1
  have hl : lv_has ls 3 [(0, .ref ot), (1, .int v1), (2, .int v2)] := hl
  unfold FX10_isSoft at hf
  refine lv_aload_n hx hb dX10_isSoft_0 rfl (lv_at hl 0 rfl) ?_
  refine lv_iload_n hx hb dX10_isSoft_1 rfl (lv_at hl 1 rfl) ?_
  obtain ⟨r1, hcr1, hf⟩ := bd_some hf
  refine p_R (st1 := [.int (bI r1)]) (run_V (rest := []) X (ctX10_isHeldUp hZ ot aMO hcr1) mk_X10_isHeldUp ml_X10_84 ⟨(Nat.le_of_ble_eq_true rfl), (Nat.le_of_ble_eq_true rfl)⟩ G [0, 1, 2, 3, 4, 5, 6, 7] rfl rfl 0 rfl rfl rfl hl.1 rfl (Nat.le_of_ble_eq_true rfl) dX10_isSoft_2 ⟨Nat.zero_le _, Nat.zero_le _⟩) rfl ?_
  refine lv_if_eq (tgt := 39) hx hb dX10_isSoft_5 (by decide) (fun c2 => ?_) (fun c2 => ?_)
  · replace hf := if_t hf c2
    refine lv_iconst (v := 0) hx hb dX10_isSoft_39 (by decide) ?_
    cases hf
    exact e_rz _ rfl X dX10_isSoft_40
  · replace hf := if_f hf c2
    refine lv_iload_n hx hb dX10_isSoft_8 rfl (lv_at hl 2 rfl) ?_
    refine lv_iload_n hx hb dX10_isSoft_9 rfl (lv_at hl 1 rfl) ?_
    obtain ⟨r3, hcr3, hf⟩ := bd_some hf
    refine p_R (st1 := [.int (bI r3)]) (run_S (rest := []) X (ctX10_has hZ hcr3) mk_X10_has ml_X10_96 ⟨(Nat.le_of_ble_eq_true rfl), (Nat.le_of_ble_eq_true rfl)⟩ G [] rfl rfl rfl hl.1 rfl (Nat.le_of_ble_eq_true rfl) dX10_isSoft_10 ⟨Nat.zero_le _, Nat.zero_le _⟩) rfl ?_
    refine lv_if_ne (tgt := 39) hx hb dX10_isSoft_13 (by decide) (fun c4 => ?_) (fun c4 => ?_)
    · replace hf := if_f hf c4
      refine lv_iconst (v := 0) hx hb dX10_isSoft_39 (by decide) ?_
      cases hf
      exact e_rz _ rfl X dX10_isSoft_40
    · replace hf := if_t hf c4
      refine lv_aload_n hx hb dX10_isSoft_16 rfl (lv_at hl 0 rfl) ?_
      refine lv_iload_n hx hb dX10_isSoft_17 rfl (lv_at hl 1 rfl) ?_
      obtain ⟨r5, hcr5, hf⟩ := bd_some hf
      refine p_R (st1 := [.int r5]) (run_V (rest := []) X (ctX10_quiet hZ ot aMO hcr5) mk_X10_quiet ml_X10_100 ⟨(Nat.le_of_ble_eq_true rfl), (Nat.le_of_ble_eq_true rfl)⟩ G [0, 1, 2, 3, 4, 5, 6, 7] rfl rfl 0 rfl rfl rfl hl.1 rfl (Nat.le_of_ble_eq_true rfl) dX10_isSoft_18 ⟨Nat.zero_le _, Nat.zero_le _⟩) rfl ?_
      refine lv_aload_n hx hb dX10_isSoft_21 rfl (lv_at hl 0 rfl) ?_
      refine r_get X inw_X10 G 0 rfl rfl 0 (by decide) fl_X10_7 (v := .ref (aMO 0)) rfl dX10_isSoft_22 ?_
      refine lv_aload_n hx hb dX10_isSoft_25 rfl (lv_at hl 0 rfl) ?_
      refine r_get X inw_X10 G 0 rfl rfl 7 (by decide) fl_X10_40 (v := .int (Mo_b MO)) rfl dX10_isSoft_26 ?_
      refine lv_iconst (v := 1) hx hb dX10_isSoft_29 (by decide) ?_
      refine lv_iadd hx hb dX10_isSoft_30 ?_
      obtain ⟨x6, ex6, hf⟩ := nm_some hf
      refine r_top (congrArg Value.int ex6) ?_
      obtain ⟨h7, hf⟩ := ix_some hf
      refine r_iald X G 1 rfl h7 dX10_isSoft_31 ?_
      refine lv_icmp_lt (tgt := 39) hx hb dX10_isSoft_32 (by decide) (fun c8 => ?_) (fun c8 => ?_)
      · replace hf := if_t hf c8
        refine lv_iconst (v := 0) hx hb dX10_isSoft_39 (by decide) ?_
        cases hf
        exact e_rz _ rfl X dX10_isSoft_40
      · replace hf := if_f hf c8
        refine lv_iconst (v := 1) hx hb dX10_isSoft_35 (by decide) ?_
        refine lv_goto (tgt := 40) hx hb dX10_isSoft_36 (by decide) ?_
        cases hf
        exact e_rz _ rfl X dX10_isSoft_40
theorem mk_X10_isSoft : MV yX10_isSoft cX10_isSoft 3 (some .boolean) 2 := ⟨co_X10_isSoft, in_X10, im_X10_isSoft, se_X10_isSoft, by decide +kernel, by decide +kernel⟩
noncomputable def FX10_isSlow (MO : MoT) (v1 : Int32) : Option (Bool) :=
  (FX10_isEnded MO v1).bind fun r1 =>
  if (bI r1) = 0 then (
    (FX10_sortNow MO v1).bind fun r3 =>
    if r3 = (7 : Int32) then (
      (FX10_quiet MO v1).bind fun r5 =>
      nm ((Mo_b MO) + (1 : Int32)) fun x6 =>
      ix x6 9519 <|
      nm ((Mo_b MO) + (2 : Int32)) fun x8 =>
      ix x8 9519 <|
      if r5 < ((Mo_all MO (Int32.toNatClampNeg x6)) + (Mo_all MO (Int32.toNatClampNeg x8))) then (
        some false
      ) else (
        some true
      )
    ) else (
      some false
    )
  ) else (
    some false
  )
set_option maxHeartbeats 4000000 in
set_option maxRecDepth 100000 in
theorem ctX10_isSlow {l : Launch} {D : va_G} {k : Nat → ClassId} {Z : ZT} (hZ : ZOK Z) (ot : Nat) (aMO : Nat → Nat) {MO : MoT} {v1 : Int32} {q : Bool} (hf : FX10_isSlow MO v1 = some q) :
    CR l D k Z yX10_isSlow cX10_isSlow 2 (some .boolean) 2 43 [.ref ot, .int v1] (some (.int (bI q))) (kMo k ot aMO (MO)) := by
  refine CR.start hZ (by decide) (Nat.le_of_ble_eq_true rfl) ?_
  intro p e s m below meth c ls X hl G
  have hx := X.1
  have hb := X.2.1
  have hl : lv_has ls 2 [(0, .ref ot), (1, .int v1)] := hl
  unfold FX10_isSlow at hf
  refine lv_aload_n hx hb dX10_isSlow_0 rfl (lv_at hl 0 rfl) ?_
  refine lv_iload_n hx hb dX10_isSlow_1 rfl (lv_at hl 1 rfl) ?_
  obtain ⟨r1, hcr1, hf⟩ := bd_some hf
  refine p_R (st1 := [.int (bI r1)]) (run_V (rest := []) X (ctX10_isEnded hZ ot aMO hcr1) mk_X10_isEnded ml_X10_81 ⟨(Nat.le_of_ble_eq_true rfl), (Nat.le_of_ble_eq_true rfl)⟩ G [0, 1, 2, 3, 4, 5, 6, 7] rfl rfl 0 rfl rfl rfl hl.1 rfl (Nat.le_of_ble_eq_true rfl) dX10_isSlow_2 ⟨Nat.zero_le _, Nat.zero_le _⟩) rfl ?_
  refine lv_if_ne (tgt := 53) hx hb dX10_isSlow_5 (by decide) (fun c2 => ?_) (fun c2 => ?_)
  · replace hf := if_f hf c2
    refine lv_iconst (v := 0) hx hb dX10_isSlow_53 (by decide) ?_
    cases hf
    exact e_rz _ rfl X dX10_isSlow_54
  · replace hf := if_t hf c2
    refine lv_aload_n hx hb dX10_isSlow_8 rfl (lv_at hl 0 rfl) ?_
    refine lv_iload_n hx hb dX10_isSlow_9 rfl (lv_at hl 1 rfl) ?_
    obtain ⟨r3, hcr3, hf⟩ := bd_some hf
    refine p_R (st1 := [.int r3]) (run_V (rest := []) X (ctX10_sortNow hZ ot aMO hcr3) mk_X10_sortNow ml_X10_62 ⟨(Nat.le_of_ble_eq_true rfl), (Nat.le_of_ble_eq_true rfl)⟩ G [0, 1, 2, 3, 4, 5, 6, 7] rfl rfl 0 rfl rfl rfl hl.1 rfl (Nat.le_of_ble_eq_true rfl) dX10_isSlow_10 ⟨Nat.zero_le _, Nat.zero_le _⟩) rfl ?_
    refine lv_bipush (v := 7) hx hb dX10_isSlow_13 (by decide) ?_
    refine lv_icmp_ne (tgt := 53) hx hb dX10_isSlow_15 (by decide) (fun c4 => ?_) (fun c4 => ?_)
    · replace hf := if_f hf c4
      refine lv_iconst (v := 0) hx hb dX10_isSlow_53 (by decide) ?_
      cases hf
      exact e_rz _ rfl X dX10_isSlow_54
    · replace hf := if_t hf c4
      refine lv_aload_n hx hb dX10_isSlow_18 rfl (lv_at hl 0 rfl) ?_
      refine lv_iload_n hx hb dX10_isSlow_19 rfl (lv_at hl 1 rfl) ?_
      obtain ⟨r5, hcr5, hf⟩ := bd_some hf
      refine p_R (st1 := [.int r5]) (run_V (rest := []) X (ctX10_quiet hZ ot aMO hcr5) mk_X10_quiet ml_X10_100 ⟨(Nat.le_of_ble_eq_true rfl), (Nat.le_of_ble_eq_true rfl)⟩ G [0, 1, 2, 3, 4, 5, 6, 7] rfl rfl 0 rfl rfl rfl hl.1 rfl (Nat.le_of_ble_eq_true rfl) dX10_isSlow_20 ⟨Nat.zero_le _, Nat.zero_le _⟩) rfl ?_
      refine lv_aload_n hx hb dX10_isSlow_23 rfl (lv_at hl 0 rfl) ?_
      refine r_get X inw_X10 G 0 rfl rfl 0 (by decide) fl_X10_7 (v := .ref (aMO 0)) rfl dX10_isSlow_24 ?_
      refine lv_aload_n hx hb dX10_isSlow_27 rfl (lv_at hl 0 rfl) ?_
      refine r_get X inw_X10 G 0 rfl rfl 7 (by decide) fl_X10_40 (v := .int (Mo_b MO)) rfl dX10_isSlow_28 ?_
      refine lv_iconst (v := 1) hx hb dX10_isSlow_31 (by decide) ?_
      refine lv_iadd hx hb dX10_isSlow_32 ?_
      obtain ⟨x6, ex6, hf⟩ := nm_some hf
      refine r_top (congrArg Value.int ex6) ?_
      obtain ⟨h7, hf⟩ := ix_some hf
      refine r_iald X G 1 rfl h7 dX10_isSlow_33 ?_
      refine lv_aload_n hx hb dX10_isSlow_34 rfl (lv_at hl 0 rfl) ?_
      refine r_get X inw_X10 G 0 rfl rfl 0 (by decide) fl_X10_7 (v := .ref (aMO 0)) rfl dX10_isSlow_35 ?_
      refine lv_aload_n hx hb dX10_isSlow_38 rfl (lv_at hl 0 rfl) ?_
      refine r_get X inw_X10 G 0 rfl rfl 7 (by decide) fl_X10_40 (v := .int (Mo_b MO)) rfl dX10_isSlow_39 ?_
      refine lv_iconst (v := 2) hx hb dX10_isSlow_42 (by decide) ?_
      refine lv_iadd hx hb dX10_isSlow_43 ?_
      obtain ⟨x8, ex8, hf⟩ := nm_some hf
      refine r_top (congrArg Value.int ex8) ?_
      obtain ⟨h9, hf⟩ := ix_some hf
      refine r_iald X G 1 rfl h9 dX10_isSlow_44 ?_
      refine lv_iadd hx hb dX10_isSlow_45 ?_
      refine lv_icmp_lt (tgt := 53) hx hb dX10_isSlow_46 (by decide) (fun c10 => ?_) (fun c10 => ?_)
      · replace hf := if_t hf c10
        refine lv_iconst (v := 0) hx hb dX10_isSlow_53 (by decide) ?_
        cases hf
        exact e_rz _ rfl X dX10_isSlow_54
      · replace hf := if_f hf c10
        refine lv_iconst (v := 1) hx hb dX10_isSlow_49 (by decide) ?_
        refine lv_goto (tgt := 54) hx hb dX10_isSlow_50 (by decide) ?_
        cases hf
        exact e_rz _ rfl X dX10_isSlow_54
theorem mk_X10_isSlow : MV yX10_isSlow cX10_isSlow 2 (some .boolean) 1 := ⟨co_X10_isSlow, in_X10, im_X10_isSlow, se_X10_isSlow, by decide +kernel, by decide +kernel⟩
noncomputable def FX10_neighbour_2 (MO : MoT) (v1 : Int32) (v2 : Int32) : Int32 → Option ((Int32) ⊕ ((Unit) ⊕ (Int32))) := fun stL1 =>
  (FX10_workers MO).bind fun r2 =>
  if r2 ≤ stL1 then (
    some (.inr (.inl ()))
  ) else (
    (FX10_workers MO).bind fun r4 =>
    nz r4 <|
    nm ((v1 + stL1) - (v1 + stL1) / r4 * r4) fun x6 =>
    (FX10_isEnded MO x6).bind fun r7 =>
    if (bI r7) = 0 then (
      (FX10_has v2 x6).bind fun r10 =>
      if (bI r10) = 0 then (
        some (.inr (.inr (x6)))
      ) else (
        nm (stL1 + 1) fun x12 =>
        some (.inl x12)
      )
    ) else (
      nm (stL1 + 1) fun x9 =>
      some (.inl x9)
    )
  )
noncomputable def FX10_neighbour (MO : MoT) (v1 : Int32) (v2 : Int32) : Option (Int32) :=
  (itr (FX10_neighbour_2 MO v1 v2) (1 : Int32)).bind fun exL1 =>
  Sum.elim (fun uL1 =>
    some (-1 : Int32)
  )
  (fun uL1 =>
    some uL1
  ) exL1
set_option maxHeartbeats 4000000 in
set_option maxRecDepth 100000 in
theorem ctX10_neighbour {l : Launch} {D : va_G} {k : Nat → ClassId} {Z : ZT} (hZ : ZOK Z) (ot : Nat) (aMO : Nat → Nat) {MO : MoT} {v1 : Int32} {v2 : Int32} {q : Int32} (hf : FX10_neighbour MO v1 v2 = some q) :
    CR l D k Z yX10_neighbour cX10_neighbour 5 (some .int) 2 42 [.ref ot, .int v1, .int v2] (some (.int q)) (kMo k ot aMO (MO)) := by
  refine CR.start hZ (by decide) (Nat.le_of_ble_eq_true rfl) ?_
  intro p e s m below meth c ls X hl G
  have hx := X.1
  have hb := X.2.1
  have hl : lv_has ls 5 [(0, .ref ot), (1, .int v1), (2, .int v2)] := hl
  unfold FX10_neighbour at hf
  refine lv_iconst (v := 1) hx hb dX10_neighbour_0 (by decide) ?_
  refine lv_istore_n (lv' := [(3, .int (1 : Int32)), (0, .ref ot), (1, .int v1), (2, .int v2)]) hx hb dX10_neighbour_1 rfl hl (by decide) rfl (fun ls hl => ?_)
  obtain ⟨exL1, hitL1, hfL1⟩ := bd_some hf
  obtain ⟨nL1, hitL1⟩ := itr_ex hitL1
  have KL1_0 : ∀ (u : Unit) (ls : Array Slot), exL1 = Sum.inl u → lv_has ls 5 [] → W p l e (rmz 2 42) s m [.ref ot, .int v1, .int v2].toArray below meth c s.heap [] 0 0 (MQ below (Qr (some (.int q))) [.ref ot, .int v1, .int v2].toArray s 0 0 (fun _ => False)) (F0 m 47 ls []) := by
    intro uL1 ls hex hl
    rw [hex] at hfL1
    have hf := hfL1
    replace hf := sl_l hf
    refine lv_iconst (v := -1) hx hb dX10_neighbour_47 (by decide) ?_
    cases hf
    exact e_ri X dX10_neighbour_48
  have KL1_1 : ∀ (u : Int32) (ls : Array Slot), exL1 = Sum.inr (u) → lv_has ls 5 [(4, .int u)] → W p l e (rmz 2 42) s m [.ref ot, .int v1, .int v2].toArray below meth c s.heap [] 0 0 (MQ below (Qr (some (.int q))) [.ref ot, .int v1, .int v2].toArray s 0 0 (fun _ => False)) (F0 m 38 ls []) := by
    intro uL1 ls hex hl
    rw [hex] at hfL1
    have hf := hfL1
    replace hf := sl_r hf
    refine lv_iload hx hb dX10_neighbour_38 (lv_at hl 0 rfl) ?_
    cases hf
    exact e_ri X dX10_neighbour_40
  have LL1 : ∀ (n : Nat) (stL1 : Int32) (ls : Array Slot), lv_has ls 5 [(0, .ref ot), (1, .int v1), (2, .int v2), (3, .int stL1)] → it (FX10_neighbour_2 MO v1 v2) n stL1 = some exL1 → W p l e (rmz 2 42) s m [.ref ot, .int v1, .int v2].toArray below meth c s.heap [] 0 0 (MQ below (Qr (some (.int q))) [.ref ot, .int v1, .int v2].toArray s 0 0 (fun _ => False)) (F0 m 2 ls []) := by
    intro n
    induction n with
    | zero =>
      intro stL1 ls hl hit
      exact (it_zero hit).elim
    | succ n ih =>
      intro stL1 ls hl hit
      obtain ⟨oL1, hf, hoL1⟩ := it_bd hit
      unfold FX10_neighbour_2 at hf
      refine lv_iload_n hx hb dX10_neighbour_2 rfl (lv_at hl 3 rfl) ?_
      refine lv_aload_n hx hb dX10_neighbour_3 rfl (lv_at hl 0 rfl) ?_
      obtain ⟨r2, hcr2, hf⟩ := bd_some hf
      refine p_R (st1 := [.int r2, .int stL1]) (run_V (rest := [.int stL1]) X (ctX10_workers hZ ot aMO hcr2) mk_X10_workers ml_X10_43 ⟨(Nat.le_of_ble_eq_true rfl), (Nat.le_of_ble_eq_true rfl)⟩ G [0, 1, 2, 3, 4, 5, 6, 7] rfl rfl 0 rfl rfl rfl hl.1 rfl (Nat.le_of_ble_eq_true rfl) dX10_neighbour_4 ⟨Nat.zero_le _, Nat.zero_le _⟩) rfl ?_
      refine lv_icmp_ge (tgt := 47) hx hb dX10_neighbour_7 (by decide) (fun c3 => ?_) (fun c3 => ?_)
      · replace hf := if_t hf c3
        cases hf
        exact KL1_0 () _ (it_out hoL1) (lv_sub hl [] rfl)
      · replace hf := if_f hf c3
        refine lv_iload_n hx hb dX10_neighbour_10 rfl (lv_at hl 1 rfl) ?_
        refine lv_iload_n hx hb dX10_neighbour_11 rfl (lv_at hl 3 rfl) ?_
        refine lv_iadd hx hb dX10_neighbour_12 ?_
        refine lv_aload_n hx hb dX10_neighbour_13 rfl (lv_at hl 0 rfl) ?_
        obtain ⟨r4, hcr4, hf⟩ := bd_some hf
        refine p_R (st1 := [.int r4, .int (v1 + stL1)]) (run_V (rest := [.int (v1 + stL1)]) X (ctX10_workers hZ ot aMO hcr4) mk_X10_workers ml_X10_43 ⟨(Nat.le_of_ble_eq_true rfl), (Nat.le_of_ble_eq_true rfl)⟩ G [0, 1, 2, 3, 4, 5, 6, 7] rfl rfl 0 rfl rfl rfl hl.1 rfl (Nat.le_of_ble_eq_true rfl) dX10_neighbour_14 ⟨Nat.zero_le _, Nat.zero_le _⟩) rfl ?_
        obtain ⟨h5, hf⟩ := nz_some hf
        refine lv_irem hx hb dX10_neighbour_17 h5 ?_
        obtain ⟨x6, ex6, hf⟩ := nm_some hf
        refine r_top (congrArg Value.int ex6) ?_
        refine lv_istore (lv' := [(4, .int x6), (0, .ref ot), (1, .int v1), (2, .int v2), (3, .int stL1)]) hx hb dX10_neighbour_18 hl (by decide) rfl (fun ls hl => ?_)
        refine lv_aload_n hx hb dX10_neighbour_20 rfl (lv_at hl 1 rfl) ?_
        refine lv_iload hx hb dX10_neighbour_21 (lv_at hl 0 rfl) ?_
        obtain ⟨r7, hcr7, hf⟩ := bd_some hf
        refine p_R (st1 := [.int (bI r7)]) (run_V (rest := []) X (ctX10_isEnded hZ ot aMO hcr7) mk_X10_isEnded ml_X10_81 ⟨(Nat.le_of_ble_eq_true rfl), (Nat.le_of_ble_eq_true rfl)⟩ G [0, 1, 2, 3, 4, 5, 6, 7] rfl rfl 0 rfl rfl rfl hl.1 rfl (Nat.le_of_ble_eq_true rfl) dX10_neighbour_23 ⟨Nat.zero_le _, Nat.zero_le _⟩) rfl ?_
        refine lv_if_ne (tgt := 41) hx hb dX10_neighbour_26 (by decide) (fun c8 => ?_) (fun c8 => ?_)
        · replace hf := if_f hf c8
          obtain ⟨x9, ex9, hf⟩ := nm_some hf
          refine lv_iinc (v := x9) (lv' := [(3, .int x9), (4, .int x6), (0, .ref ot), (1, .int v1), (2, .int v2)]) hx hb dX10_neighbour_41 hl (k := 4) rfl (by subst ex9; rfl) (by decide) rfl (fun ls hl => ?_)
          refine lv_goto (tgt := 2) hx hb dX10_neighbour_44 (by decide) ?_
          cases hf
          exact ih x9 _ (lv_sub hl [2, 3, 4, 0] rfl) hoL1
        · replace hf := if_t hf c8
          refine lv_iload_n hx hb dX10_neighbour_29 rfl (lv_at hl 3 rfl) ?_
          refine lv_iload hx hb dX10_neighbour_30 (lv_at hl 0 rfl) ?_
          obtain ⟨r10, hcr10, hf⟩ := bd_some hf
          refine p_R (st1 := [.int (bI r10)]) (run_S (rest := []) X (ctX10_has hZ hcr10) mk_X10_has ml_X10_96 ⟨(Nat.le_of_ble_eq_true rfl), (Nat.le_of_ble_eq_true rfl)⟩ G [] rfl rfl rfl hl.1 rfl (Nat.le_of_ble_eq_true rfl) dX10_neighbour_32 ⟨Nat.zero_le _, Nat.zero_le _⟩) rfl ?_
          refine lv_if_ne (tgt := 41) hx hb dX10_neighbour_35 (by decide) (fun c11 => ?_) (fun c11 => ?_)
          · replace hf := if_f hf c11
            obtain ⟨x12, ex12, hf⟩ := nm_some hf
            refine lv_iinc (v := x12) (lv' := [(3, .int x12), (4, .int x6), (0, .ref ot), (1, .int v1), (2, .int v2)]) hx hb dX10_neighbour_41 hl (k := 4) rfl (by subst ex12; rfl) (by decide) rfl (fun ls hl => ?_)
            refine lv_goto (tgt := 2) hx hb dX10_neighbour_44 (by decide) ?_
            cases hf
            exact ih x12 _ (lv_sub hl [2, 3, 4, 0] rfl) hoL1
          · replace hf := if_t hf c11
            cases hf
            exact KL1_1 x6 _ (it_out hoL1) (lv_sub hl [0] rfl)
  exact LL1 nL1 (1 : Int32) _ (lv_sub hl [1, 2, 3, 0] rfl) hitL1
theorem mk_X10_neighbour : MV yX10_neighbour cX10_neighbour 5 (some .int) 2 := ⟨co_X10_neighbour, in_X10, im_X10_neighbour, se_X10_neighbour, by decide +kernel, by decide +kernel⟩
noncomputable def FX10_letsGo (MO : MoT) (v1 : Int32) : Option (MoT) :=
  (FX10_sortNow MO v1).bind fun r1 =>
  if r1 = (1 : Int32) then (
    (FX10_numberNow MO v1).bind fun r4 =>
    ix (((Mo_b MO) + (240 : Int32)) + r4) 9519 <|
    nm (sMo_all MO (upd (Mo_all MO) (Int32.toNatClampNeg (((Mo_b MO) + (240 : Int32)) + r4)) v1)) fun MO6 =>
    (FX10_goesOn MO6 v1).bind fun r7 =>
    some r7
  ) else (
    (FX10_goesOn MO v1).bind fun r3 =>
    some r3
  )
set_option maxHeartbeats 4000000 in
set_option maxRecDepth 100000 in
theorem ctX10_letsGo {l : Launch} {D : va_G} {k : Nat → ClassId} {Z : ZT} (hZ : ZOK Z) (ot : Nat) (aMO : Nat → Nat) {MO : MoT} {v1 : Int32} {q : MoT} (hf : FX10_letsGo MO v1 = some q) :
    CM l D k Z yX10_letsGo cX10_letsGo 2 none 3 65 [.ref ot, .int v1] none (kMo k ot aMO (MO)) (kMo k ot aMO (q)) := by
  refine CM.start hZ (by decide) (Nat.le_of_ble_eq_true rfl) ?_
  intro p e s m below meth c ls X hl G
  have hx := X.1
  have hb := X.2.1
  have hl : lv_has ls 2 [(0, .ref ot), (1, .int v1)] := hl
  unfold FX10_letsGo at hf
  refine lv_aload_n hx hb dX10_letsGo_0 rfl (lv_at hl 0 rfl) ?_
  refine lv_iload_n hx hb dX10_letsGo_1 rfl (lv_at hl 1 rfl) ?_
  obtain ⟨r1, hcr1, hf⟩ := bd_some hf
  refine p_R (st1 := [.int r1]) (run_V (rest := []) X (ctX10_sortNow hZ ot aMO hcr1) mk_X10_sortNow ml_X10_62 ⟨(Nat.le_of_ble_eq_true rfl), (Nat.le_of_ble_eq_true rfl)⟩ G [0, 1, 2, 3, 4, 5, 6, 7] rfl rfl 0 rfl rfl rfl hl.1 rfl (Nat.le_of_ble_eq_true rfl) dX10_letsGo_2 ⟨Nat.zero_le _, Nat.zero_le _⟩) rfl ?_
  refine lv_iconst (v := 1) hx hb dX10_letsGo_5 (by decide) ?_
  refine lv_icmp_ne (tgt := 29) hx hb dX10_letsGo_6 (by decide) (fun c2 => ?_) (fun c2 => ?_)
  · replace hf := if_f hf c2
    refine lv_aload_n hx hb dX10_letsGo_29 rfl (lv_at hl 0 rfl) ?_
    refine lv_iload_n hx hb dX10_letsGo_30 rfl (lv_at hl 1 rfl) ?_
    obtain ⟨r3, hcr3, hf⟩ := bd_some hf
    refine p_N (st1 := []) (wr := []) (ws' := kMo k ot aMO (r3)) (run_V (rest := []) X (ctX10_goesOn hZ ot aMO hcr3) mk_X10_goesOn ml_X10_78 ⟨(Nat.le_of_ble_eq_true rfl), (Nat.le_of_ble_eq_true rfl)⟩ G [0, 1, 2, 3, 4, 5, 6, 7] rfl rfl 0 rfl rfl rfl hl.1 rfl (Nat.le_of_ble_eq_true rfl) dX10_letsGo_31 ⟨Nat.zero_le _, Nat.zero_le _⟩) rfl G [0, 1, 2, 3, 4, 5, 6, 7] [] 8 rfl rfl rfl rfl rfl (by decide) (by decide) rfl (fun H locs G => ?_)
    cases hf
    exact e_mv X G dX10_letsGo_34
  · replace hf := if_t hf c2
    refine lv_aload_n hx hb dX10_letsGo_9 rfl (lv_at hl 0 rfl) ?_
    refine r_get X inw_X10 G 0 rfl rfl 0 (by decide) fl_X10_7 (v := .ref (aMO 0)) rfl dX10_letsGo_10 ?_
    refine lv_aload_n hx hb dX10_letsGo_13 rfl (lv_at hl 0 rfl) ?_
    refine r_get X inw_X10 G 0 rfl rfl 7 (by decide) fl_X10_40 (v := .int (Mo_b MO)) rfl dX10_letsGo_14 ?_
    refine lv_sipush (v := 240) hx hb dX10_letsGo_17 (by decide) ?_
    refine lv_iadd hx hb dX10_letsGo_20 ?_
    refine lv_aload_n hx hb dX10_letsGo_21 rfl (lv_at hl 0 rfl) ?_
    refine lv_iload_n hx hb dX10_letsGo_22 rfl (lv_at hl 1 rfl) ?_
    obtain ⟨r4, hcr4, hf⟩ := bd_some hf
    refine p_R (st1 := [.int r4, .int ((Mo_b MO) + (240 : Int32)), .ref (aMO 0)]) (run_V (rest := [.int ((Mo_b MO) + (240 : Int32)), .ref (aMO 0)]) X (ctX10_numberNow hZ ot aMO hcr4) mk_X10_numberNow ml_X10_68 ⟨(Nat.le_of_ble_eq_true rfl), (Nat.le_of_ble_eq_true rfl)⟩ G [0, 1, 2, 3, 4, 5, 6, 7] rfl rfl 0 rfl rfl rfl hl.1 rfl (Nat.le_of_ble_eq_true rfl) dX10_letsGo_23 ⟨Nat.zero_le _, Nat.zero_le _⟩) rfl ?_
    refine lv_iadd hx hb dX10_letsGo_26 ?_
    refine lv_iload_n hx hb dX10_letsGo_27 rfl (lv_at hl 1 rfl) ?_
    obtain ⟨h5, hf⟩ := ix_some hf
    obtain ⟨MO6, eMO6, hf⟩ := nm_some hf
    refine r_iast X G 1 rfl h5 (ws' := kMo k ot aMO (MO6)) (by subst eMO6; rfl) dX10_letsGo_28 (fun H locs G => ?_)
    refine lv_aload_n hx hb dX10_letsGo_29 rfl (lv_at hl 0 rfl) ?_
    refine lv_iload_n hx hb dX10_letsGo_30 rfl (lv_at hl 1 rfl) ?_
    obtain ⟨r7, hcr7, hf⟩ := bd_some hf
    refine p_N (st1 := []) (wr := []) (ws' := kMo k ot aMO (r7)) (run_V (rest := []) X (ctX10_goesOn hZ ot aMO hcr7) mk_X10_goesOn ml_X10_78 ⟨(Nat.le_of_ble_eq_true rfl), (Nat.le_of_ble_eq_true rfl)⟩ G [0, 1, 2, 3, 4, 5, 6, 7] rfl rfl 0 rfl rfl rfl hl.1 rfl (Nat.le_of_ble_eq_true rfl) dX10_letsGo_31 ⟨Nat.zero_le _, Nat.zero_le _⟩) rfl G [0, 1, 2, 3, 4, 5, 6, 7] [] 8 rfl rfl rfl rfl rfl (by decide) (by decide) rfl (fun H locs G => ?_)
    cases hf
    exact e_mv X G dX10_letsGo_34
theorem mk_X10_letsGo : MV yX10_letsGo cX10_letsGo 2 none 1 := ⟨co_X10_letsGo, in_X10, im_X10_letsGo, se_X10_letsGo, by decide +kernel, by decide +kernel⟩
noncomputable def FX10_bits_4 (v1 : Int32) : (Int32 × Int32) → Option ((Int32 × Int32) ⊕ (Int32)) := fun stL1 =>
  if (8 : Int32) ≤ stL1.2 then (
    some (.inr stL1.1)
  ) else (
    nm (stL1.1 + ((v1 >>> (stL1.2 &&& 31)) &&& (1 : Int32))) fun x3 =>
    nm (stL1.2 + 1) fun x4 =>
    some (.inl (x3, x4))
  )
noncomputable def FX10_bits (v1 : Int32) : Option (Int32) :=
  (itr (FX10_bits_4 v1) ((0 : Int32), (0 : Int32))).bind fun uL1 =>
  some uL1
set_option maxHeartbeats 4000000 in
set_option maxRecDepth 100000 in
theorem ctX10_bits {l : Launch} {D : va_G} {k : Nat → ClassId} {Z : ZT} (hZ : ZOK Z)  {v1 : Int32} {q : Int32} (hf : FX10_bits v1 = some q) :
    CR l D k Z yX10_bits cX10_bits 3 (some .int) 0 0 [.int v1] (some (.int q)) ([]) := by
  refine CR.start hZ (by decide) (Nat.le_of_ble_eq_true rfl) ?_
  intro p e s m below meth c ls X hl G
  have hx := X.1
  have hb := X.2.1
  have hl : lv_has ls 3 [(0, .int v1)] := hl
  unfold FX10_bits at hf
  refine lv_iconst (v := 0) hx hb dX10_bits_0 (by decide) ?_
  refine lv_istore_n (lv' := [(1, .int (0 : Int32)), (0, .int v1)]) hx hb dX10_bits_1 rfl hl (by decide) rfl (fun ls hl => ?_)
  refine lv_iconst (v := 0) hx hb dX10_bits_2 (by decide) ?_
  refine lv_istore_n (lv' := [(2, .int (0 : Int32)), (1, .int (0 : Int32)), (0, .int v1)]) hx hb dX10_bits_3 rfl hl (by decide) rfl (fun ls hl => ?_)
  obtain ⟨exL1, hitL1, hfL1⟩ := bd_some hf
  obtain ⟨nL1, hitL1⟩ := itr_ex hitL1
  have KL1_0 : ∀ (u : Int32) (ls : Array Slot), exL1 = u → lv_has ls 3 [(1, .int u)] → W p l e (rmz 0 0) s m [.int v1].toArray below meth c s.heap [] 0 0 (MQ below (Qr (some (.int q))) [.int v1].toArray s 0 0 (fun _ => False)) (F0 m 24 ls []) := by
    intro uL1 ls hex hl
    rw [hex] at hfL1
    have hf := hfL1
    refine lv_iload_n hx hb dX10_bits_24 rfl (lv_at hl 0 rfl) ?_
    cases hf
    exact e_ri X dX10_bits_25
  have LL1 : ∀ (n : Nat) (stL1 : Int32 × Int32) (ls : Array Slot), lv_has ls 3 [(0, .int v1), (1, .int (stL1.1)), (2, .int (stL1.2))] → it (FX10_bits_4 v1) n stL1 = some exL1 → W p l e (rmz 0 0) s m [.int v1].toArray below meth c s.heap [] 0 0 (MQ below (Qr (some (.int q))) [.int v1].toArray s 0 0 (fun _ => False)) (F0 m 4 ls []) := by
    intro n
    induction n with
    | zero =>
      intro stL1 ls hl hit
      exact (it_zero hit).elim
    | succ n ih =>
      intro stL1 ls hl hit
      obtain ⟨oL1, hf, hoL1⟩ := it_bd hit
      unfold FX10_bits_4 at hf
      refine lv_iload_n hx hb dX10_bits_4 rfl (lv_at hl 2 rfl) ?_
      refine lv_bipush (v := 8) hx hb dX10_bits_5 (by decide) ?_
      refine lv_icmp_ge (tgt := 24) hx hb dX10_bits_7 (by decide) (fun c2 => ?_) (fun c2 => ?_)
      · replace hf := if_t hf c2
        cases hf
        exact KL1_0 stL1.1 _ (it_out hoL1) (lv_sub hl [1] rfl)
      · replace hf := if_f hf c2
        refine lv_iload_n hx hb dX10_bits_10 rfl (lv_at hl 1 rfl) ?_
        refine lv_iload_n hx hb dX10_bits_11 rfl (lv_at hl 0 rfl) ?_
        refine lv_iload_n hx hb dX10_bits_12 rfl (lv_at hl 2 rfl) ?_
        refine lv_ishr hx hb dX10_bits_13 ?_
        refine lv_iconst (v := 1) hx hb dX10_bits_14 (by decide) ?_
        refine lv_iand hx hb dX10_bits_15 ?_
        refine lv_iadd hx hb dX10_bits_16 ?_
        obtain ⟨x3, ex3, hf⟩ := nm_some hf
        refine r_top (congrArg Value.int ex3) ?_
        refine lv_istore_n (lv' := [(1, .int x3), (0, .int v1), (2, .int (stL1.2))]) hx hb dX10_bits_17 rfl hl (by decide) rfl (fun ls hl => ?_)
        obtain ⟨x4, ex4, hf⟩ := nm_some hf
        refine lv_iinc (v := x4) (lv' := [(2, .int x4), (1, .int x3), (0, .int v1)]) hx hb dX10_bits_18 hl (k := 2) rfl (by subst ex4; rfl) (by decide) rfl (fun ls hl => ?_)
        refine lv_goto (tgt := 4) hx hb dX10_bits_21 (by decide) ?_
        cases hf
        exact ih (x3, x4) _ (lv_sub hl [2, 1, 0] rfl) hoL1
  exact LL1 nL1 ((0 : Int32), (0 : Int32)) _ (lv_sub hl [2, 1, 0] rfl) hitL1
theorem mk_X10_bits : MS yX10_bits cX10_bits 3 (some .int) 1 := ⟨co_X10_bits, in_X10, st_X10_bits, trivial, by decide +kernel, by decide +kernel⟩
noncomputable def FX10_freedBy (MO : MoT) (v1 : Int32) (v2 : Int32) : Option (Int32 × MoT) :=
  nm (Mo_b MO) fun x1 =>
  (FX10_copies MO (Mo_b MO) (948 : Int32) (474 : Int32)).bind fun r2 =>
  nm (sMo_b r2 (948 : Int32)) fun MO3 =>
  (FX10_letsGo MO3 v1).bind fun r4 =>
  (FX10_hard r4).bind fun r5 =>
  nm (sMo_b r4 x1) fun MO6 =>
  (FX10_bits (v2 &&& (r5 ^^^ (-1 : Int32)))).bind fun r7 =>
  some (r7, MO6)
set_option maxHeartbeats 4000000 in
set_option maxRecDepth 100000 in
theorem ctX10_freedBy {l : Launch} {D : va_G} {k : Nat → ClassId} {Z : ZT} (hZ : ZOK Z) (ot : Nat) (aMO : Nat → Nat) {MO : MoT} {v1 : Int32} {v2 : Int32} {q : Int32 × MoT} (hf : FX10_freedBy MO v1 v2 = some q) :
    CM l D k Z yX10_freedBy cX10_freedBy 5 (some .int) 7 156 [.ref ot, .int v1, .int v2] (some (.int q.1)) (kMo k ot aMO (MO)) (kMo k ot aMO (q.2)) := by
  refine CM.start hZ (by decide) (Nat.le_of_ble_eq_true rfl) ?_
  intro p e s m below meth c ls X hl G
  have hx := X.1
  have hb := X.2.1
  have hl : lv_has ls 5 [(0, .ref ot), (1, .int v1), (2, .int v2)] := hl
  unfold FX10_freedBy at hf
  refine lv_aload_n hx hb dX10_freedBy_0 rfl (lv_at hl 0 rfl) ?_
  refine r_get X inw_X10 G 0 rfl rfl 7 (by decide) fl_X10_40 (v := .int (Mo_b MO)) rfl dX10_freedBy_1 ?_
  obtain ⟨x1, ex1, hf⟩ := nm_some hf
  refine r_top (congrArg Value.int ex1) ?_
  refine lv_istore_n (lv' := [(3, .int x1), (0, .ref ot), (1, .int v1), (2, .int v2)]) hx hb dX10_freedBy_4 rfl hl (by decide) rfl (fun ls hl => ?_)
  refine lv_aload_n hx hb dX10_freedBy_5 rfl (lv_at hl 1 rfl) ?_
  refine lv_aload_n hx hb dX10_freedBy_6 rfl (lv_at hl 1 rfl) ?_
  refine r_get X inw_X10 G 0 rfl rfl 7 (by decide) fl_X10_40 (v := .int (Mo_b MO)) rfl dX10_freedBy_7 ?_
  refine lv_sipush (v := 948) hx hb dX10_freedBy_10 (by decide) ?_
  refine lv_sipush (v := 474) hx hb dX10_freedBy_13 (by decide) ?_
  obtain ⟨r2, hcr2, hf⟩ := bd_some hf
  refine p_N (st1 := []) (wr := []) (ws' := kMo k ot aMO (r2)) (run_V (rest := []) X (ctX10_copies hZ ot aMO hcr2) mk_X10_copies ml_X10_103 ⟨(Nat.le_of_ble_eq_true rfl), (Nat.le_of_ble_eq_true rfl)⟩ G [0, 1, 2, 3, 4, 5, 6, 7] rfl rfl 0 rfl rfl rfl hl.1 rfl (Nat.le_of_ble_eq_true rfl) dX10_freedBy_16 ⟨Nat.zero_le _, Nat.zero_le _⟩) rfl G [0, 1, 2, 3, 4, 5, 6, 7] [] 8 rfl rfl rfl rfl rfl (by decide) (by decide) rfl (fun H locs G => ?_)
  refine lv_aload_n hx hb dX10_freedBy_19 rfl (lv_at hl 1 rfl) ?_
  refine lv_sipush (v := 948) hx hb dX10_freedBy_20 (by decide) ?_
  obtain ⟨MO3, eMO3, hf⟩ := nm_some hf
  refine r_put X inw_X10 tyX10 tyX10_ok nmX10 G 0 rfl rfl 7 (by decide) fl_X10_40 rfl rfl rfl (Nat.le_of_ble_eq_true rfl) (ws' := kMo k ot aMO (MO3)) (by subst eMO3; rfl) dX10_freedBy_23 (fun H locs G => ?_)
  refine lv_aload_n hx hb dX10_freedBy_26 rfl (lv_at hl 1 rfl) ?_
  refine lv_iload_n hx hb dX10_freedBy_27 rfl (lv_at hl 2 rfl) ?_
  obtain ⟨r4, hcr4, hf⟩ := bd_some hf
  refine p_N (st1 := []) (wr := []) (ws' := kMo k ot aMO (r4)) (run_V (rest := []) X (ctX10_letsGo hZ ot aMO hcr4) mk_X10_letsGo ml_X10_107 ⟨(Nat.le_of_ble_eq_true rfl), (Nat.le_of_ble_eq_true rfl)⟩ G [0, 1, 2, 3, 4, 5, 6, 7] rfl rfl 0 rfl rfl rfl hl.1 rfl (Nat.le_of_ble_eq_true rfl) dX10_freedBy_28 ⟨Nat.zero_le _, Nat.zero_le _⟩) rfl G [0, 1, 2, 3, 4, 5, 6, 7] [] 8 rfl rfl rfl rfl rfl (by decide) (by decide) rfl (fun H locs G => ?_)
  refine lv_aload_n hx hb dX10_freedBy_31 rfl (lv_at hl 1 rfl) ?_
  obtain ⟨r5, hcr5, hf⟩ := bd_some hf
  refine p_R (st1 := [.int r5]) (run_V (rest := []) X (ctX10_hard hZ ot aMO hcr5) mk_X10_hard ml_X10_110 ⟨(Nat.le_of_ble_eq_true rfl), (Nat.le_of_ble_eq_true rfl)⟩ G [0, 1, 2, 3, 4, 5, 6, 7] rfl rfl 0 rfl rfl rfl hl.1 rfl (Nat.le_of_ble_eq_true rfl) dX10_freedBy_32 ⟨Nat.zero_le _, Nat.zero_le _⟩) rfl ?_
  refine lv_istore (lv' := [(4, .int r5), (3, .int x1), (0, .ref ot), (1, .int v1), (2, .int v2)]) hx hb dX10_freedBy_35 hl (by decide) rfl (fun ls hl => ?_)
  refine lv_aload_n hx hb dX10_freedBy_37 rfl (lv_at hl 2 rfl) ?_
  refine lv_iload_n hx hb dX10_freedBy_38 rfl (lv_at hl 1 rfl) ?_
  obtain ⟨MO6, eMO6, hf⟩ := nm_some hf
  refine r_put X inw_X10 tyX10 tyX10_ok nmX10 G 0 rfl rfl 7 (by decide) fl_X10_40 rfl rfl rfl (Nat.le_of_ble_eq_true rfl) (ws' := kMo k ot aMO (MO6)) (by subst eMO6; rfl) dX10_freedBy_39 (fun H locs G => ?_)
  refine lv_iload_n hx hb dX10_freedBy_42 rfl (lv_at hl 4 rfl) ?_
  refine lv_iload hx hb dX10_freedBy_43 (lv_at hl 0 rfl) ?_
  refine lv_iconst (v := -1) hx hb dX10_freedBy_45 (by decide) ?_
  refine lv_ixor hx hb dX10_freedBy_46 ?_
  refine lv_iand hx hb dX10_freedBy_47 ?_
  obtain ⟨r7, hcr7, hf⟩ := bd_some hf
  refine p_R (st1 := [.int r7]) (run_S (rest := []) X (ctX10_bits hZ hcr7) mk_X10_bits ml_X10_113 ⟨(Nat.le_of_ble_eq_true rfl), (Nat.le_of_ble_eq_true rfl)⟩ G [] rfl rfl rfl hl.1 rfl (Nat.le_of_ble_eq_true rfl) dX10_freedBy_48 ⟨Nat.zero_le _, Nat.zero_le _⟩) rfl ?_
  cases hf
  exact e_mi X G dX10_freedBy_51
theorem mk_X10_freedBy : MV yX10_freedBy cX10_freedBy 5 (some .int) 2 := ⟨co_X10_freedBy, in_X10, im_X10_freedBy, se_X10_freedBy, by decide +kernel, by decide +kernel⟩
noncomputable def FX10_blocker_18 (v1 : Int32) (v2 : Int32) : (Int32 × Int32 × Int32 × MoT) → Option ((Int32 × Int32 × Int32 × MoT) ⊕ (Int32 × MoT)) := fun stL3 =>
  (FX10_workers stL3.2.2.2).bind fun r4 =>
  if r4 ≤ stL3.2.2.1 then (
    some (.inr (stL3.1, stL3.2.2.2))
  ) else (
    (FX10_isHeldUp stL3.2.2.2 stL3.2.2.1).bind fun r6 =>
    if (bI r6) = 0 then (
      nm (stL3.2.2.1 + 1) fun x8 =>
      some (.inl (stL3.1, stL3.2.1, x8, stL3.2.2.2))
    ) else (
      (FX10_has v2 v1).bind fun r9 =>
      if (bI r9) = 0 then (
        (FX10_freedBy stL3.2.2.2 stL3.2.2.1 v2).bind fun r11 =>
        if stL3.1 = (-1 : Int32) then (
          nm (stL3.2.2.1 + 1) fun x13 =>
          some (.inl (stL3.2.2.1, r11.1, x13, r11.2))
        ) else (
          if r11.1 < stL3.2.1 then (
            nm (stL3.2.2.1 + 1) fun x15 =>
            some (.inl (stL3.1, stL3.2.1, x15, r11.2))
          ) else (
            if r11.1 = stL3.2.1 then (
              (FX10_quiet r11.2 stL3.2.2.1).bind fun r18 =>
              (FX10_quiet r11.2 stL3.1).bind fun r19 =>
              if r19 < r18 then (
                nm (stL3.2.2.1 + 1) fun x21 =>
                some (.inl (stL3.2.2.1, r11.1, x21, r11.2))
              ) else (
                nm (stL3.2.2.1 + 1) fun x22 =>
                some (.inl (stL3.1, stL3.2.1, x22, r11.2))
              )
            ) else (
              nm (stL3.2.2.1 + 1) fun x17 =>
              some (.inl (stL3.2.2.1, r11.1, x17, r11.2))
            )
          )
        )
      ) else (
        (FX10_has v2 stL3.2.2.1).bind fun r23 =>
        if (bI r23) = 0 then (
          nm (stL3.2.2.1 + 1) fun x37 =>
          some (.inl (stL3.1, stL3.2.1, x37, stL3.2.2.2))
        ) else (
          (FX10_freedBy stL3.2.2.2 stL3.2.2.1 v2).bind fun r25 =>
          if stL3.1 = (-1 : Int32) then (
            nm (stL3.2.2.1 + 1) fun x27 =>
            some (.inl (stL3.2.2.1, r25.1, x27, r25.2))
          ) else (
            if r25.1 < stL3.2.1 then (
              nm (stL3.2.2.1 + 1) fun x29 =>
              some (.inl (stL3.1, stL3.2.1, x29, r25.2))
            ) else (
              if r25.1 = stL3.2.1 then (
                (FX10_quiet r25.2 stL3.2.2.1).bind fun r32 =>
                (FX10_quiet r25.2 stL3.1).bind fun r33 =>
                if r33 < r32 then (
                  nm (stL3.2.2.1 + 1) fun x35 =>
                  some (.inl (stL3.2.2.1, r25.1, x35, r25.2))
                ) else (
                  nm (stL3.2.2.1 + 1) fun x36 =>
                  some (.inl (stL3.1, stL3.2.1, x36, r25.2))
                )
              ) else (
                nm (stL3.2.2.1 + 1) fun x31 =>
                some (.inl (stL3.2.2.1, r25.1, x31, r25.2))
              )
            )
          )
        )
      )
    )
  )
noncomputable def FX10_blocker (MO : MoT) (v1 : Int32) (v2 : Int32) : Option (Int32 × MoT) :=
  (FX10_isHeldUp MO v1).bind fun r1 =>
  if (bI r1) = 0 then (
    some ((-1 : Int32), MO)
  ) else (
    (itr (FX10_blocker_18 v1 v2) ((-1 : Int32), (0 : Int32), (0 : Int32), MO)).bind fun uL3 =>
    some (uL3.1, uL3.2)
  )
set_option maxHeartbeats 4000000 in
set_option maxRecDepth 100000 in
theorem ctX10_blocker {l : Launch} {D : va_G} {k : Nat → ClassId} {Z : ZT} (hZ : ZOK Z) (ot : Nat) (aMO : Nat → Nat) {MO : MoT} {v1 : Int32} {v2 : Int32} {q : Int32 × MoT} (hf : FX10_blocker MO v1 v2 = some q) :
    CM l D k Z yX10_blocker cX10_blocker 7 (some .int) 8 180 [.ref ot, .int v1, .int v2] (some (.int q.1)) (kMo k ot aMO (MO)) (kMo k ot aMO (q.2)) := by
  refine CM.start hZ (by decide) (Nat.le_of_ble_eq_true rfl) ?_
  intro p e s m below meth c ls X hl G
  have hx := X.1
  have hb := X.2.1
  have hl : lv_has ls 7 [(0, .ref ot), (1, .int v1), (2, .int v2)] := hl
  unfold FX10_blocker at hf
  refine lv_aload_n hx hb dX10_blocker_0 rfl (lv_at hl 0 rfl) ?_
  refine lv_iload_n hx hb dX10_blocker_1 rfl (lv_at hl 1 rfl) ?_
  obtain ⟨r1, hcr1, hf⟩ := bd_some hf
  refine p_R (st1 := [.int (bI r1)]) (run_V (rest := []) X (ctX10_isHeldUp hZ ot aMO hcr1) mk_X10_isHeldUp ml_X10_84 ⟨(Nat.le_of_ble_eq_true rfl), (Nat.le_of_ble_eq_true rfl)⟩ G [0, 1, 2, 3, 4, 5, 6, 7] rfl rfl 0 rfl rfl rfl hl.1 rfl (Nat.le_of_ble_eq_true rfl) dX10_blocker_2 ⟨Nat.zero_le _, Nat.zero_le _⟩) rfl ?_
  refine lv_if_ne (tgt := 10) hx hb dX10_blocker_5 (by decide) (fun c2 => ?_) (fun c2 => ?_)
  · replace hf := if_f hf c2
    refine lv_iconst (v := -1) hx hb dX10_blocker_10 (by decide) ?_
    refine lv_istore_n (lv' := [(3, .int (-1 : Int32)), (0, .ref ot), (1, .int v1), (2, .int v2)]) hx hb dX10_blocker_11 rfl hl (by decide) rfl (fun ls hl => ?_)
    refine lv_iconst (v := 0) hx hb dX10_blocker_12 (by decide) ?_
    refine lv_istore (lv' := [(4, .int (0 : Int32)), (3, .int (-1 : Int32)), (0, .ref ot), (1, .int v1), (2, .int v2)]) hx hb dX10_blocker_13 hl (by decide) rfl (fun ls hl => ?_)
    refine lv_iconst (v := 0) hx hb dX10_blocker_15 (by decide) ?_
    refine lv_istore (lv' := [(5, .int (0 : Int32)), (4, .int (0 : Int32)), (3, .int (-1 : Int32)), (0, .ref ot), (1, .int v1), (2, .int v2)]) hx hb dX10_blocker_16 hl (by decide) rfl (fun ls hl => ?_)
    obtain ⟨exL3, hitL3, hfL3⟩ := bd_some hf
    obtain ⟨nL3, hitL3⟩ := itr_ex hitL3
    have KL3_0 : ∀ (u : Int32 × MoT) (H : Heap) (locs : List Loc) (ls : Array Slot), exL3 = u → Wo D (wA (kMo k ot aMO (MO))) s.heap (kMo k ot aMO (u.2)) H locs → lv_has ls 7 [(3, .int (u.1))] → W p l e (rmz 8 180) s m [.ref ot, .int v1, .int v2].toArray below meth c H locs 0 0 (MQ below (Qm D (some (.int q.1)) (kMo k ot aMO (MO)) (kMo k ot aMO (q.2))) [.ref ot, .int v1, .int v2].toArray s 0 0 (wA (kMo k ot aMO (MO)))) (F0 m 114 ls []) := by
      intro uL3 H locs ls hex G hl
      rw [hex] at hfL3
      have hf := hfL3
      refine lv_iload_n hx hb dX10_blocker_114 rfl (lv_at hl 0 rfl) ?_
      cases hf
      exact e_mi X G dX10_blocker_115
    have LL3 : ∀ (n : Nat) (stL3 : Int32 × Int32 × Int32 × MoT) (H : Heap) (locs : List Loc) (ls : Array Slot), Wo D (wA (kMo k ot aMO (MO))) s.heap (kMo k ot aMO (stL3.2.2.2)) H locs → lv_has ls 7 [(0, .ref ot), (1, .int v1), (2, .int v2), (3, .int (stL3.1)), (4, .int (stL3.2.1)), (5, .int (stL3.2.2.1))] → it (FX10_blocker_18 v1 v2) n stL3 = some exL3 → W p l e (rmz 8 180) s m [.ref ot, .int v1, .int v2].toArray below meth c H locs 0 0 (MQ below (Qm D (some (.int q.1)) (kMo k ot aMO (MO)) (kMo k ot aMO (q.2))) [.ref ot, .int v1, .int v2].toArray s 0 0 (wA (kMo k ot aMO (MO)))) (F0 m 18 ls []) := by
      intro n
      induction n with
      | zero =>
        intro stL3 H locs ls G hl hit
        exact (it_zero hit).elim
      | succ n ih =>
        intro stL3 H locs ls G hl hit
        obtain ⟨oL3, hf, hoL3⟩ := it_bd hit
        unfold FX10_blocker_18 at hf
        refine lv_iload hx hb dX10_blocker_18 (lv_at hl 5 rfl) ?_
        refine lv_aload_n hx hb dX10_blocker_20 rfl (lv_at hl 0 rfl) ?_
        obtain ⟨r4, hcr4, hf⟩ := bd_some hf
        refine p_R (st1 := [.int r4, .int (stL3.2.2.1)]) (run_V (rest := [.int (stL3.2.2.1)]) X (ctX10_workers hZ ot aMO hcr4) mk_X10_workers ml_X10_43 ⟨(Nat.le_of_ble_eq_true rfl), (Nat.le_of_ble_eq_true rfl)⟩ G [0, 1, 2, 3, 4, 5, 6, 7] rfl rfl 0 rfl rfl rfl hl.1 rfl (Nat.le_of_ble_eq_true rfl) dX10_blocker_21 ⟨Nat.zero_le _, Nat.zero_le _⟩) rfl ?_
        refine lv_icmp_ge (tgt := 114) hx hb dX10_blocker_24 (by decide) (fun c5 => ?_) (fun c5 => ?_)
        · replace hf := if_t hf c5
          cases hf
          exact KL3_0 (stL3.1, stL3.2.2.2) _ _ _ (it_out hoL3) G (lv_sub hl [3] rfl)
        · replace hf := if_f hf c5
          refine lv_aload_n hx hb dX10_blocker_27 rfl (lv_at hl 0 rfl) ?_
          refine lv_iload hx hb dX10_blocker_28 (lv_at hl 5 rfl) ?_
          obtain ⟨r6, hcr6, hf⟩ := bd_some hf
          refine p_R (st1 := [.int (bI r6)]) (run_V (rest := []) X (ctX10_isHeldUp hZ ot aMO hcr6) mk_X10_isHeldUp ml_X10_84 ⟨(Nat.le_of_ble_eq_true rfl), (Nat.le_of_ble_eq_true rfl)⟩ G [0, 1, 2, 3, 4, 5, 6, 7] rfl rfl 0 rfl rfl rfl hl.1 rfl (Nat.le_of_ble_eq_true rfl) dX10_blocker_30 ⟨Nat.zero_le _, Nat.zero_le _⟩) rfl ?_
          refine lv_if_eq (tgt := 108) hx hb dX10_blocker_33 (by decide) (fun c7 => ?_) (fun c7 => ?_)
          · replace hf := if_t hf c7
            obtain ⟨x8, ex8, hf⟩ := nm_some hf
            refine lv_iinc (v := x8) (lv' := [(5, .int x8), (0, .ref ot), (1, .int v1), (2, .int v2), (3, .int (stL3.1)), (4, .int (stL3.2.1))]) hx hb dX10_blocker_108 hl (k := 5) rfl (by subst ex8; rfl) (by decide) rfl (fun ls hl => ?_)
            refine lv_goto (tgt := 18) hx hb dX10_blocker_111 (by decide) ?_
            cases hf
            exact ih (stL3.1, stL3.2.1, x8, stL3.2.2.2) _ _ _ G (lv_sub hl [1, 2, 3, 4, 5, 0] rfl) hoL3
          · replace hf := if_f hf c7
            refine lv_iload_n hx hb dX10_blocker_36 rfl (lv_at hl 2 rfl) ?_
            refine lv_iload_n hx hb dX10_blocker_37 rfl (lv_at hl 1 rfl) ?_
            obtain ⟨r9, hcr9, hf⟩ := bd_some hf
            refine p_R (st1 := [.int (bI r9)]) (run_S (rest := []) X (ctX10_has hZ hcr9) mk_X10_has ml_X10_96 ⟨(Nat.le_of_ble_eq_true rfl), (Nat.le_of_ble_eq_true rfl)⟩ G [] rfl rfl rfl hl.1 rfl (Nat.le_of_ble_eq_true rfl) dX10_blocker_38 ⟨Nat.zero_le _, Nat.zero_le _⟩) rfl ?_
            refine lv_if_eq (tgt := 56) hx hb dX10_blocker_41 (by decide) (fun c10 => ?_) (fun c10 => ?_)
            · replace hf := if_t hf c10
              refine lv_aload_n hx hb dX10_blocker_56 rfl (lv_at hl 0 rfl) ?_
              refine lv_iload hx hb dX10_blocker_57 (lv_at hl 5 rfl) ?_
              refine lv_iload_n hx hb dX10_blocker_59 rfl (lv_at hl 2 rfl) ?_
              obtain ⟨r11, hcr11, hf⟩ := bd_some hf
              refine p_N (st1 := [.int (r11.1)]) (wr := []) (ws' := kMo k ot aMO (r11.2)) (run_V (rest := []) X (ctX10_freedBy hZ ot aMO hcr11) mk_X10_freedBy ml_X10_116 ⟨(Nat.le_of_ble_eq_true rfl), (Nat.le_of_ble_eq_true rfl)⟩ G [0, 1, 2, 3, 4, 5, 6, 7] rfl rfl 0 rfl rfl rfl hl.1 rfl (Nat.le_of_ble_eq_true rfl) dX10_blocker_60 ⟨Nat.zero_le _, Nat.zero_le _⟩) rfl G [0, 1, 2, 3, 4, 5, 6, 7] [] 8 rfl rfl rfl rfl rfl (by decide) (by decide) rfl (fun H locs G => ?_)
              refine lv_istore (lv' := [(6, .int (r11.1)), (0, .ref ot), (1, .int v1), (2, .int v2), (3, .int (stL3.1)), (4, .int (stL3.2.1)), (5, .int (stL3.2.2.1))]) hx hb dX10_blocker_63 hl (by decide) rfl (fun ls hl => ?_)
              refine lv_iload_n hx hb dX10_blocker_65 rfl (lv_at hl 4 rfl) ?_
              refine lv_iconst (v := -1) hx hb dX10_blocker_66 (by decide) ?_
              refine lv_icmp_eq (tgt := 101) hx hb dX10_blocker_67 (by decide) (fun c12 => ?_) (fun c12 => ?_)
              · replace hf := if_t hf c12
                refine lv_iload hx hb dX10_blocker_101 (lv_at hl 6 rfl) ?_
                refine lv_istore_n (lv' := [(3, .int (stL3.2.2.1)), (6, .int (r11.1)), (0, .ref ot), (1, .int v1), (2, .int v2), (4, .int (stL3.2.1)), (5, .int (stL3.2.2.1))]) hx hb dX10_blocker_103 rfl hl (by decide) rfl (fun ls hl => ?_)
                refine lv_iload hx hb dX10_blocker_104 (lv_at hl 1 rfl) ?_
                refine lv_istore (lv' := [(4, .int (r11.1)), (3, .int (stL3.2.2.1)), (6, .int (r11.1)), (0, .ref ot), (1, .int v1), (2, .int v2), (5, .int (stL3.2.2.1))]) hx hb dX10_blocker_106 hl (by decide) rfl (fun ls hl => ?_)
                obtain ⟨x13, ex13, hf⟩ := nm_some hf
                refine lv_iinc (v := x13) (lv' := [(5, .int x13), (4, .int (r11.1)), (3, .int (stL3.2.2.1)), (6, .int (r11.1)), (0, .ref ot), (1, .int v1), (2, .int v2)]) hx hb dX10_blocker_108 hl (k := 6) rfl (by subst ex13; rfl) (by decide) rfl (fun ls hl => ?_)
                refine lv_goto (tgt := 18) hx hb dX10_blocker_111 (by decide) ?_
                cases hf
                exact ih (stL3.2.2.1, r11.1, x13, r11.2) _ _ _ G (lv_sub hl [4, 5, 6, 2, 1, 0] rfl) hoL3
              · replace hf := if_f hf c12
                refine lv_iload hx hb dX10_blocker_70 (lv_at hl 0 rfl) ?_
                refine lv_iload hx hb dX10_blocker_72 (lv_at hl 5 rfl) ?_
                refine lv_icmp_lt (tgt := 108) hx hb dX10_blocker_74 (by decide) (fun c14 => ?_) (fun c14 => ?_)
                · replace hf := if_t hf c14
                  obtain ⟨x15, ex15, hf⟩ := nm_some hf
                  refine lv_iinc (v := x15) (lv' := [(5, .int x15), (6, .int (r11.1)), (0, .ref ot), (1, .int v1), (2, .int v2), (3, .int (stL3.1)), (4, .int (stL3.2.1))]) hx hb dX10_blocker_108 hl (k := 6) rfl (by subst ex15; rfl) (by decide) rfl (fun ls hl => ?_)
                  refine lv_goto (tgt := 18) hx hb dX10_blocker_111 (by decide) ?_
                  cases hf
                  exact ih (stL3.1, stL3.2.1, x15, r11.2) _ _ _ G (lv_sub hl [2, 3, 4, 5, 6, 0] rfl) hoL3
                · replace hf := if_f hf c14
                  refine lv_iload hx hb dX10_blocker_77 (lv_at hl 0 rfl) ?_
                  refine lv_iload hx hb dX10_blocker_79 (lv_at hl 5 rfl) ?_
                  refine lv_icmp_ne (tgt := 101) hx hb dX10_blocker_81 (by decide) (fun c16 => ?_) (fun c16 => ?_)
                  · replace hf := if_f hf c16
                    refine lv_iload hx hb dX10_blocker_101 (lv_at hl 6 rfl) ?_
                    refine lv_istore_n (lv' := [(3, .int (stL3.2.2.1)), (6, .int (r11.1)), (0, .ref ot), (1, .int v1), (2, .int v2), (4, .int (stL3.2.1)), (5, .int (stL3.2.2.1))]) hx hb dX10_blocker_103 rfl hl (by decide) rfl (fun ls hl => ?_)
                    refine lv_iload hx hb dX10_blocker_104 (lv_at hl 1 rfl) ?_
                    refine lv_istore (lv' := [(4, .int (r11.1)), (3, .int (stL3.2.2.1)), (6, .int (r11.1)), (0, .ref ot), (1, .int v1), (2, .int v2), (5, .int (stL3.2.2.1))]) hx hb dX10_blocker_106 hl (by decide) rfl (fun ls hl => ?_)
                    obtain ⟨x17, ex17, hf⟩ := nm_some hf
                    refine lv_iinc (v := x17) (lv' := [(5, .int x17), (4, .int (r11.1)), (3, .int (stL3.2.2.1)), (6, .int (r11.1)), (0, .ref ot), (1, .int v1), (2, .int v2)]) hx hb dX10_blocker_108 hl (k := 6) rfl (by subst ex17; rfl) (by decide) rfl (fun ls hl => ?_)
                    refine lv_goto (tgt := 18) hx hb dX10_blocker_111 (by decide) ?_
                    cases hf
                    exact ih (stL3.2.2.1, r11.1, x17, r11.2) _ _ _ G (lv_sub hl [4, 5, 6, 2, 1, 0] rfl) hoL3
                  · replace hf := if_t hf c16
                    refine lv_aload_n hx hb dX10_blocker_84 rfl (lv_at hl 1 rfl) ?_
                    refine lv_iload hx hb dX10_blocker_85 (lv_at hl 6 rfl) ?_
                    obtain ⟨r18, hcr18, hf⟩ := bd_some hf
                    refine p_R (st1 := [.int r18]) (run_V (rest := []) X (ctX10_quiet hZ ot aMO hcr18) mk_X10_quiet ml_X10_100 ⟨(Nat.le_of_ble_eq_true rfl), (Nat.le_of_ble_eq_true rfl)⟩ G [0, 1, 2, 3, 4, 5, 6, 7] rfl rfl 0 rfl rfl rfl hl.1 rfl (Nat.le_of_ble_eq_true rfl) dX10_blocker_87 ⟨Nat.zero_le _, Nat.zero_le _⟩) rfl ?_
                    refine lv_aload_n hx hb dX10_blocker_90 rfl (lv_at hl 1 rfl) ?_
                    refine lv_iload_n hx hb dX10_blocker_91 rfl (lv_at hl 4 rfl) ?_
                    obtain ⟨r19, hcr19, hf⟩ := bd_some hf
                    refine p_R (st1 := [.int r19, .int r18]) (run_V (rest := [.int r18]) X (ctX10_quiet hZ ot aMO hcr19) mk_X10_quiet ml_X10_100 ⟨(Nat.le_of_ble_eq_true rfl), (Nat.le_of_ble_eq_true rfl)⟩ G [0, 1, 2, 3, 4, 5, 6, 7] rfl rfl 0 rfl rfl rfl hl.1 rfl (Nat.le_of_ble_eq_true rfl) dX10_blocker_92 ⟨Nat.zero_le _, Nat.zero_le _⟩) rfl ?_
                    refine lv_icmp_gt (tgt := 101) hx hb dX10_blocker_95 (by decide) (fun c20 => ?_) (fun c20 => ?_)
                    · replace hf := if_t hf c20
                      refine lv_iload hx hb dX10_blocker_101 (lv_at hl 6 rfl) ?_
                      refine lv_istore_n (lv' := [(3, .int (stL3.2.2.1)), (6, .int (r11.1)), (0, .ref ot), (1, .int v1), (2, .int v2), (4, .int (stL3.2.1)), (5, .int (stL3.2.2.1))]) hx hb dX10_blocker_103 rfl hl (by decide) rfl (fun ls hl => ?_)
                      refine lv_iload hx hb dX10_blocker_104 (lv_at hl 1 rfl) ?_
                      refine lv_istore (lv' := [(4, .int (r11.1)), (3, .int (stL3.2.2.1)), (6, .int (r11.1)), (0, .ref ot), (1, .int v1), (2, .int v2), (5, .int (stL3.2.2.1))]) hx hb dX10_blocker_106 hl (by decide) rfl (fun ls hl => ?_)
                      obtain ⟨x21, ex21, hf⟩ := nm_some hf
                      refine lv_iinc (v := x21) (lv' := [(5, .int x21), (4, .int (r11.1)), (3, .int (stL3.2.2.1)), (6, .int (r11.1)), (0, .ref ot), (1, .int v1), (2, .int v2)]) hx hb dX10_blocker_108 hl (k := 6) rfl (by subst ex21; rfl) (by decide) rfl (fun ls hl => ?_)
                      refine lv_goto (tgt := 18) hx hb dX10_blocker_111 (by decide) ?_
                      cases hf
                      exact ih (stL3.2.2.1, r11.1, x21, r11.2) _ _ _ G (lv_sub hl [4, 5, 6, 2, 1, 0] rfl) hoL3
                    · replace hf := if_f hf c20
                      refine lv_goto (tgt := 108) hx hb dX10_blocker_98 (by decide) ?_
                      obtain ⟨x22, ex22, hf⟩ := nm_some hf
                      refine lv_iinc (v := x22) (lv' := [(5, .int x22), (6, .int (r11.1)), (0, .ref ot), (1, .int v1), (2, .int v2), (3, .int (stL3.1)), (4, .int (stL3.2.1))]) hx hb dX10_blocker_108 hl (k := 6) rfl (by subst ex22; rfl) (by decide) rfl (fun ls hl => ?_)
                      refine lv_goto (tgt := 18) hx hb dX10_blocker_111 (by decide) ?_
                      cases hf
                      exact ih (stL3.1, stL3.2.1, x22, r11.2) _ _ _ G (lv_sub hl [2, 3, 4, 5, 6, 0] rfl) hoL3
            · replace hf := if_f hf c10
              refine lv_iload_n hx hb dX10_blocker_44 rfl (lv_at hl 2 rfl) ?_
              refine lv_iload hx hb dX10_blocker_45 (lv_at hl 5 rfl) ?_
              obtain ⟨r23, hcr23, hf⟩ := bd_some hf
              refine p_R (st1 := [.int (bI r23)]) (run_S (rest := []) X (ctX10_has hZ hcr23) mk_X10_has ml_X10_96 ⟨(Nat.le_of_ble_eq_true rfl), (Nat.le_of_ble_eq_true rfl)⟩ G [] rfl rfl rfl hl.1 rfl (Nat.le_of_ble_eq_true rfl) dX10_blocker_47 ⟨Nat.zero_le _, Nat.zero_le _⟩) rfl ?_
              refine lv_if_ne (tgt := 56) hx hb dX10_blocker_50 (by decide) (fun c24 => ?_) (fun c24 => ?_)
              · replace hf := if_f hf c24
                refine lv_aload_n hx hb dX10_blocker_56 rfl (lv_at hl 0 rfl) ?_
                refine lv_iload hx hb dX10_blocker_57 (lv_at hl 5 rfl) ?_
                refine lv_iload_n hx hb dX10_blocker_59 rfl (lv_at hl 2 rfl) ?_
                obtain ⟨r25, hcr25, hf⟩ := bd_some hf
                refine p_N (st1 := [.int (r25.1)]) (wr := []) (ws' := kMo k ot aMO (r25.2)) (run_V (rest := []) X (ctX10_freedBy hZ ot aMO hcr25) mk_X10_freedBy ml_X10_116 ⟨(Nat.le_of_ble_eq_true rfl), (Nat.le_of_ble_eq_true rfl)⟩ G [0, 1, 2, 3, 4, 5, 6, 7] rfl rfl 0 rfl rfl rfl hl.1 rfl (Nat.le_of_ble_eq_true rfl) dX10_blocker_60 ⟨Nat.zero_le _, Nat.zero_le _⟩) rfl G [0, 1, 2, 3, 4, 5, 6, 7] [] 8 rfl rfl rfl rfl rfl (by decide) (by decide) rfl (fun H locs G => ?_)
                refine lv_istore (lv' := [(6, .int (r25.1)), (0, .ref ot), (1, .int v1), (2, .int v2), (3, .int (stL3.1)), (4, .int (stL3.2.1)), (5, .int (stL3.2.2.1))]) hx hb dX10_blocker_63 hl (by decide) rfl (fun ls hl => ?_)
                refine lv_iload_n hx hb dX10_blocker_65 rfl (lv_at hl 4 rfl) ?_
                refine lv_iconst (v := -1) hx hb dX10_blocker_66 (by decide) ?_
                refine lv_icmp_eq (tgt := 101) hx hb dX10_blocker_67 (by decide) (fun c26 => ?_) (fun c26 => ?_)
                · replace hf := if_t hf c26
                  refine lv_iload hx hb dX10_blocker_101 (lv_at hl 6 rfl) ?_
                  refine lv_istore_n (lv' := [(3, .int (stL3.2.2.1)), (6, .int (r25.1)), (0, .ref ot), (1, .int v1), (2, .int v2), (4, .int (stL3.2.1)), (5, .int (stL3.2.2.1))]) hx hb dX10_blocker_103 rfl hl (by decide) rfl (fun ls hl => ?_)
                  refine lv_iload hx hb dX10_blocker_104 (lv_at hl 1 rfl) ?_
                  refine lv_istore (lv' := [(4, .int (r25.1)), (3, .int (stL3.2.2.1)), (6, .int (r25.1)), (0, .ref ot), (1, .int v1), (2, .int v2), (5, .int (stL3.2.2.1))]) hx hb dX10_blocker_106 hl (by decide) rfl (fun ls hl => ?_)
                  obtain ⟨x27, ex27, hf⟩ := nm_some hf
                  refine lv_iinc (v := x27) (lv' := [(5, .int x27), (4, .int (r25.1)), (3, .int (stL3.2.2.1)), (6, .int (r25.1)), (0, .ref ot), (1, .int v1), (2, .int v2)]) hx hb dX10_blocker_108 hl (k := 6) rfl (by subst ex27; rfl) (by decide) rfl (fun ls hl => ?_)
                  refine lv_goto (tgt := 18) hx hb dX10_blocker_111 (by decide) ?_
                  cases hf
                  exact ih (stL3.2.2.1, r25.1, x27, r25.2) _ _ _ G (lv_sub hl [4, 5, 6, 2, 1, 0] rfl) hoL3
                · replace hf := if_f hf c26
                  refine lv_iload hx hb dX10_blocker_70 (lv_at hl 0 rfl) ?_
                  refine lv_iload hx hb dX10_blocker_72 (lv_at hl 5 rfl) ?_
                  refine lv_icmp_lt (tgt := 108) hx hb dX10_blocker_74 (by decide) (fun c28 => ?_) (fun c28 => ?_)
                  · replace hf := if_t hf c28
                    obtain ⟨x29, ex29, hf⟩ := nm_some hf
                    refine lv_iinc (v := x29) (lv' := [(5, .int x29), (6, .int (r25.1)), (0, .ref ot), (1, .int v1), (2, .int v2), (3, .int (stL3.1)), (4, .int (stL3.2.1))]) hx hb dX10_blocker_108 hl (k := 6) rfl (by subst ex29; rfl) (by decide) rfl (fun ls hl => ?_)
                    refine lv_goto (tgt := 18) hx hb dX10_blocker_111 (by decide) ?_
                    cases hf
                    exact ih (stL3.1, stL3.2.1, x29, r25.2) _ _ _ G (lv_sub hl [2, 3, 4, 5, 6, 0] rfl) hoL3
                  · replace hf := if_f hf c28
                    refine lv_iload hx hb dX10_blocker_77 (lv_at hl 0 rfl) ?_
                    refine lv_iload hx hb dX10_blocker_79 (lv_at hl 5 rfl) ?_
                    refine lv_icmp_ne (tgt := 101) hx hb dX10_blocker_81 (by decide) (fun c30 => ?_) (fun c30 => ?_)
                    · replace hf := if_f hf c30
                      refine lv_iload hx hb dX10_blocker_101 (lv_at hl 6 rfl) ?_
                      refine lv_istore_n (lv' := [(3, .int (stL3.2.2.1)), (6, .int (r25.1)), (0, .ref ot), (1, .int v1), (2, .int v2), (4, .int (stL3.2.1)), (5, .int (stL3.2.2.1))]) hx hb dX10_blocker_103 rfl hl (by decide) rfl (fun ls hl => ?_)
                      refine lv_iload hx hb dX10_blocker_104 (lv_at hl 1 rfl) ?_
                      refine lv_istore (lv' := [(4, .int (r25.1)), (3, .int (stL3.2.2.1)), (6, .int (r25.1)), (0, .ref ot), (1, .int v1), (2, .int v2), (5, .int (stL3.2.2.1))]) hx hb dX10_blocker_106 hl (by decide) rfl (fun ls hl => ?_)
                      obtain ⟨x31, ex31, hf⟩ := nm_some hf
                      refine lv_iinc (v := x31) (lv' := [(5, .int x31), (4, .int (r25.1)), (3, .int (stL3.2.2.1)), (6, .int (r25.1)), (0, .ref ot), (1, .int v1), (2, .int v2)]) hx hb dX10_blocker_108 hl (k := 6) rfl (by subst ex31; rfl) (by decide) rfl (fun ls hl => ?_)
                      refine lv_goto (tgt := 18) hx hb dX10_blocker_111 (by decide) ?_
                      cases hf
                      exact ih (stL3.2.2.1, r25.1, x31, r25.2) _ _ _ G (lv_sub hl [4, 5, 6, 2, 1, 0] rfl) hoL3
                    · replace hf := if_t hf c30
                      refine lv_aload_n hx hb dX10_blocker_84 rfl (lv_at hl 1 rfl) ?_
                      refine lv_iload hx hb dX10_blocker_85 (lv_at hl 6 rfl) ?_
                      obtain ⟨r32, hcr32, hf⟩ := bd_some hf
                      refine p_R (st1 := [.int r32]) (run_V (rest := []) X (ctX10_quiet hZ ot aMO hcr32) mk_X10_quiet ml_X10_100 ⟨(Nat.le_of_ble_eq_true rfl), (Nat.le_of_ble_eq_true rfl)⟩ G [0, 1, 2, 3, 4, 5, 6, 7] rfl rfl 0 rfl rfl rfl hl.1 rfl (Nat.le_of_ble_eq_true rfl) dX10_blocker_87 ⟨Nat.zero_le _, Nat.zero_le _⟩) rfl ?_
                      refine lv_aload_n hx hb dX10_blocker_90 rfl (lv_at hl 1 rfl) ?_
                      refine lv_iload_n hx hb dX10_blocker_91 rfl (lv_at hl 4 rfl) ?_
                      obtain ⟨r33, hcr33, hf⟩ := bd_some hf
                      refine p_R (st1 := [.int r33, .int r32]) (run_V (rest := [.int r32]) X (ctX10_quiet hZ ot aMO hcr33) mk_X10_quiet ml_X10_100 ⟨(Nat.le_of_ble_eq_true rfl), (Nat.le_of_ble_eq_true rfl)⟩ G [0, 1, 2, 3, 4, 5, 6, 7] rfl rfl 0 rfl rfl rfl hl.1 rfl (Nat.le_of_ble_eq_true rfl) dX10_blocker_92 ⟨Nat.zero_le _, Nat.zero_le _⟩) rfl ?_
                      refine lv_icmp_gt (tgt := 101) hx hb dX10_blocker_95 (by decide) (fun c34 => ?_) (fun c34 => ?_)
                      · replace hf := if_t hf c34
                        refine lv_iload hx hb dX10_blocker_101 (lv_at hl 6 rfl) ?_
                        refine lv_istore_n (lv' := [(3, .int (stL3.2.2.1)), (6, .int (r25.1)), (0, .ref ot), (1, .int v1), (2, .int v2), (4, .int (stL3.2.1)), (5, .int (stL3.2.2.1))]) hx hb dX10_blocker_103 rfl hl (by decide) rfl (fun ls hl => ?_)
                        refine lv_iload hx hb dX10_blocker_104 (lv_at hl 1 rfl) ?_
                        refine lv_istore (lv' := [(4, .int (r25.1)), (3, .int (stL3.2.2.1)), (6, .int (r25.1)), (0, .ref ot), (1, .int v1), (2, .int v2), (5, .int (stL3.2.2.1))]) hx hb dX10_blocker_106 hl (by decide) rfl (fun ls hl => ?_)
                        obtain ⟨x35, ex35, hf⟩ := nm_some hf
                        refine lv_iinc (v := x35) (lv' := [(5, .int x35), (4, .int (r25.1)), (3, .int (stL3.2.2.1)), (6, .int (r25.1)), (0, .ref ot), (1, .int v1), (2, .int v2)]) hx hb dX10_blocker_108 hl (k := 6) rfl (by subst ex35; rfl) (by decide) rfl (fun ls hl => ?_)
                        refine lv_goto (tgt := 18) hx hb dX10_blocker_111 (by decide) ?_
                        cases hf
                        exact ih (stL3.2.2.1, r25.1, x35, r25.2) _ _ _ G (lv_sub hl [4, 5, 6, 2, 1, 0] rfl) hoL3
                      · replace hf := if_f hf c34
                        refine lv_goto (tgt := 108) hx hb dX10_blocker_98 (by decide) ?_
                        obtain ⟨x36, ex36, hf⟩ := nm_some hf
                        refine lv_iinc (v := x36) (lv' := [(5, .int x36), (6, .int (r25.1)), (0, .ref ot), (1, .int v1), (2, .int v2), (3, .int (stL3.1)), (4, .int (stL3.2.1))]) hx hb dX10_blocker_108 hl (k := 6) rfl (by subst ex36; rfl) (by decide) rfl (fun ls hl => ?_)
                        refine lv_goto (tgt := 18) hx hb dX10_blocker_111 (by decide) ?_
                        cases hf
                        exact ih (stL3.1, stL3.2.1, x36, r25.2) _ _ _ G (lv_sub hl [2, 3, 4, 5, 6, 0] rfl) hoL3
              · replace hf := if_t hf c24
                refine lv_goto (tgt := 108) hx hb dX10_blocker_53 (by decide) ?_
                obtain ⟨x37, ex37, hf⟩ := nm_some hf
                refine lv_iinc (v := x37) (lv' := [(5, .int x37), (0, .ref ot), (1, .int v1), (2, .int v2), (3, .int (stL3.1)), (4, .int (stL3.2.1))]) hx hb dX10_blocker_108 hl (k := 5) rfl (by subst ex37; rfl) (by decide) rfl (fun ls hl => ?_)
                refine lv_goto (tgt := 18) hx hb dX10_blocker_111 (by decide) ?_
                cases hf
                exact ih (stL3.1, stL3.2.1, x37, stL3.2.2.2) _ _ _ G (lv_sub hl [1, 2, 3, 4, 5, 0] rfl) hoL3
    exact LL3 nL3 ((-1 : Int32), (0 : Int32), (0 : Int32), MO) _ _ _ G (lv_sub hl [3, 4, 5, 2, 1, 0] rfl) hitL3
  · replace hf := if_t hf c2
    refine lv_iconst (v := -1) hx hb dX10_blocker_8 (by decide) ?_
    cases hf
    exact e_mi X G dX10_blocker_9
theorem mk_X10_blocker : MV yX10_blocker cX10_blocker 7 (some .int) 2 := ⟨co_X10_blocker, in_X10, im_X10_blocker, se_X10_blocker, by decide +kernel, by decide +kernel⟩
noncomputable def FX10_keepsStall_j60 (v1 : Int32) (v2 : Int32) (v3 : Int32) (vJ3 : MoT) : Option (MoT) :=
  nm ((Mo_b vJ3) + (322 : Int32)) fun x4 =>
  ix x4 9519 <|
  nm (((Mo_b vJ3) + (324 : Int32)) + ((5 : Int32) * (Mo_all vJ3 (Int32.toNatClampNeg x4)))) fun x6 =>
  nm ((Mo_b vJ3) + (207 : Int32)) fun x7 =>
  ix x7 9519 <|
  ix x6 9519 <|
  nm (sMo_all vJ3 (upd (Mo_all vJ3) (Int32.toNatClampNeg x6) (Mo_all vJ3 (Int32.toNatClampNeg x7)))) fun MO10 =>
  ix (x6 + (1 : Int32)) 9519 <|
  nm (sMo_all MO10 (upd (Mo_all MO10) (Int32.toNatClampNeg (x6 + (1 : Int32))) v1)) fun MO12 =>
  ix (x6 + (2 : Int32)) 9519 <|
  nm (sMo_all MO12 (upd (Mo_all MO12) (Int32.toNatClampNeg (x6 + (2 : Int32))) v2)) fun MO14 =>
  (FX10_blocker MO14 v1 v3).bind fun r15 =>
  ix (x6 + (3 : Int32)) 9519 <|
  nm (sMo_all r15.2 (upd (Mo_all r15.2) (Int32.toNatClampNeg (x6 + (3 : Int32))) r15.1)) fun MO17 =>
  (FX10_neighbour MO17 v1 v3).bind fun r18 =>
  ix (x6 + (4 : Int32)) 9519 <|
  nm (sMo_all MO17 (upd (Mo_all MO17) (Int32.toNatClampNeg (x6 + (4 : Int32))) r18)) fun MO20 =>
  nm ((Mo_b MO20) + (322 : Int32)) fun x21 =>
  ix x21 9519 <|
  ix ((Mo_b MO20) + (322 : Int32)) 9519 <|
  nm (sMo_all MO20 (upd (Mo_all MO20) (Int32.toNatClampNeg ((Mo_b MO20) + (322 : Int32))) ((Mo_all MO20 (Int32.toNatClampNeg x21)) + (1 : Int32)))) fun MO24 =>
  nm ((Mo_b MO24) + (323 : Int32)) fun x25 =>
  ix x25 9519 <|
  ix ((Mo_b MO24) + (323 : Int32)) 9519 <|
  nm (sMo_all MO24 (upd (Mo_all MO24) (Int32.toNatClampNeg ((Mo_b MO24) + (323 : Int32))) ((Mo_all MO24 (Int32.toNatClampNeg x25)) + (1 : Int32)))) fun MO28 =>
  nm (((Mo_b MO28) + (314 : Int32)) + v1) fun x29 =>
  ix x29 9519 <|
  ix (((Mo_b MO28) + (314 : Int32)) + v1) 9519 <|
  nm (sMo_all MO28 (upd (Mo_all MO28) (Int32.toNatClampNeg (((Mo_b MO28) + (314 : Int32)) + v1)) ((Mo_all MO28 (Int32.toNatClampNeg x29)) ||| ((1 : Int32) <<< (v2 &&& 31))))) fun MO32 =>
  some MO32
noncomputable def FX10_keepsStall (MO : MoT) (v1 : Int32) (v2 : Int32) (v3 : Int32) : Option (MoT) :=
  nm ((Mo_b MO) + (322 : Int32)) fun x1 =>
  ix x1 9519 <|
  if (Mo_all MO (Int32.toNatClampNeg x1)) = (30 : Int32) then (
    (FX10_copies MO (((Mo_b MO) + (324 : Int32)) + (5 : Int32)) ((Mo_b MO) + (324 : Int32)) (145 : Int32)).bind fun r34 =>
    nm ((Mo_b r34) + (322 : Int32)) fun x35 =>
    ix x35 9519 <|
    ix ((Mo_b r34) + (322 : Int32)) 9519 <|
    nm (sMo_all r34 (upd (Mo_all r34) (Int32.toNatClampNeg ((Mo_b r34) + (322 : Int32))) ((Mo_all r34 (Int32.toNatClampNeg x35)) - (1 : Int32)))) fun MO38 =>
    FX10_keepsStall_j60 v1 v2 v3 MO38
  ) else (
    FX10_keepsStall_j60 v1 v2 v3 MO
  )
set_option maxHeartbeats 4000000 in
set_option maxRecDepth 100000 in
theorem ctX10_keepsStall {l : Launch} {D : va_G} {k : Nat → ClassId} {Z : ZT} (hZ : ZOK Z) (ot : Nat) (aMO : Nat → Nat) {MO : MoT} {v1 : Int32} {v2 : Int32} {v3 : Int32} {q : MoT} (hf : FX10_keepsStall MO v1 v2 v3 = some q) :
    CM l D k Z yX10_keepsStall cX10_keepsStall 5 none 9 206 [.ref ot, .int v1, .int v2, .int v3] none (kMo k ot aMO (MO)) (kMo k ot aMO (q)) := by
  refine CM.start hZ (by decide) (Nat.le_of_ble_eq_true rfl) ?_
  intro p e s m below meth c ls X hl G
  have hx := X.1
  have hb := X.2.1
  have hl : lv_has ls 5 [(0, .ref ot), (1, .int v1), (2, .int v2), (3, .int v3)] := hl
  unfold FX10_keepsStall at hf
  refine lv_aload_n hx hb dX10_keepsStall_0 rfl (lv_at hl 0 rfl) ?_
  refine r_get X inw_X10 G 0 rfl rfl 0 (by decide) fl_X10_7 (v := .ref (aMO 0)) rfl dX10_keepsStall_1 ?_
  refine lv_aload_n hx hb dX10_keepsStall_4 rfl (lv_at hl 0 rfl) ?_
  refine r_get X inw_X10 G 0 rfl rfl 7 (by decide) fl_X10_40 (v := .int (Mo_b MO)) rfl dX10_keepsStall_5 ?_
  refine lv_sipush (v := 322) hx hb dX10_keepsStall_8 (by decide) ?_
  refine lv_iadd hx hb dX10_keepsStall_11 ?_
  obtain ⟨x1, ex1, hf⟩ := nm_some hf
  refine r_top (congrArg Value.int ex1) ?_
  obtain ⟨h2, hf⟩ := ix_some hf
  refine r_iald X G 1 rfl h2 dX10_keepsStall_12 ?_
  refine lv_bipush (v := 30) hx hb dX10_keepsStall_13 (by decide) ?_
  have JJ3 : ∀ (vJ3 : MoT) (H : Heap) (locs : List Loc) (ls : Array Slot), Wo D (wA (kMo k ot aMO (MO))) s.heap (kMo k ot aMO (vJ3)) H locs → lv_has ls 5 [(0, .ref ot), (1, .int v1), (2, .int v2), (3, .int v3)] → FX10_keepsStall_j60 v1 v2 v3 vJ3 = some q → W p l e (rmz 9 206) s m [.ref ot, .int v1, .int v2, .int v3].toArray below meth c H locs 0 0 (MQ below (Qm D none (kMo k ot aMO (MO)) (kMo k ot aMO (q))) [.ref ot, .int v1, .int v2, .int v3].toArray s 0 0 (wA (kMo k ot aMO (MO)))) (F0 m 60 ls []) := by
    intro vJ3 H locs ls G hl hf
    unfold FX10_keepsStall_j60 at hf
    refine lv_aload_n hx hb dX10_keepsStall_60 rfl (lv_at hl 0 rfl) ?_
    refine r_get X inw_X10 G 0 rfl rfl 7 (by decide) fl_X10_40 (v := .int (Mo_b vJ3)) rfl dX10_keepsStall_61 ?_
    refine lv_sipush (v := 324) hx hb dX10_keepsStall_64 (by decide) ?_
    refine lv_iadd hx hb dX10_keepsStall_67 ?_
    refine lv_iconst (v := 5) hx hb dX10_keepsStall_68 (by decide) ?_
    refine lv_aload_n hx hb dX10_keepsStall_69 rfl (lv_at hl 0 rfl) ?_
    refine r_get X inw_X10 G 0 rfl rfl 0 (by decide) fl_X10_7 (v := .ref (aMO 0)) rfl dX10_keepsStall_70 ?_
    refine lv_aload_n hx hb dX10_keepsStall_73 rfl (lv_at hl 0 rfl) ?_
    refine r_get X inw_X10 G 0 rfl rfl 7 (by decide) fl_X10_40 (v := .int (Mo_b vJ3)) rfl dX10_keepsStall_74 ?_
    refine lv_sipush (v := 322) hx hb dX10_keepsStall_77 (by decide) ?_
    refine lv_iadd hx hb dX10_keepsStall_80 ?_
    obtain ⟨x4, ex4, hf⟩ := nm_some hf
    refine r_top (congrArg Value.int ex4) ?_
    obtain ⟨h5, hf⟩ := ix_some hf
    refine r_iald X G 1 rfl h5 dX10_keepsStall_81 ?_
    refine lv_imul hx hb dX10_keepsStall_82 ?_
    refine lv_iadd hx hb dX10_keepsStall_83 ?_
    obtain ⟨x6, ex6, hf⟩ := nm_some hf
    refine r_top (congrArg Value.int ex6) ?_
    refine lv_istore (lv' := [(4, .int x6), (0, .ref ot), (1, .int v1), (2, .int v2), (3, .int v3)]) hx hb dX10_keepsStall_84 hl (by decide) rfl (fun ls hl => ?_)
    refine lv_aload_n hx hb dX10_keepsStall_86 rfl (lv_at hl 1 rfl) ?_
    refine r_get X inw_X10 G 0 rfl rfl 0 (by decide) fl_X10_7 (v := .ref (aMO 0)) rfl dX10_keepsStall_87 ?_
    refine lv_iload hx hb dX10_keepsStall_90 (lv_at hl 0 rfl) ?_
    refine lv_aload_n hx hb dX10_keepsStall_92 rfl (lv_at hl 1 rfl) ?_
    refine r_get X inw_X10 G 0 rfl rfl 0 (by decide) fl_X10_7 (v := .ref (aMO 0)) rfl dX10_keepsStall_93 ?_
    refine lv_aload_n hx hb dX10_keepsStall_96 rfl (lv_at hl 1 rfl) ?_
    refine r_get X inw_X10 G 0 rfl rfl 7 (by decide) fl_X10_40 (v := .int (Mo_b vJ3)) rfl dX10_keepsStall_97 ?_
    refine lv_sipush (v := 207) hx hb dX10_keepsStall_100 (by decide) ?_
    refine lv_iadd hx hb dX10_keepsStall_103 ?_
    obtain ⟨x7, ex7, hf⟩ := nm_some hf
    refine r_top (congrArg Value.int ex7) ?_
    obtain ⟨h8, hf⟩ := ix_some hf
    refine r_iald X G 1 rfl h8 dX10_keepsStall_104 ?_
    obtain ⟨h9, hf⟩ := ix_some hf
    obtain ⟨MO10, eMO10, hf⟩ := nm_some hf
    refine r_iast X G 1 rfl h9 (ws' := kMo k ot aMO (MO10)) (by subst eMO10; rfl) dX10_keepsStall_105 (fun H locs G => ?_)
    refine lv_aload_n hx hb dX10_keepsStall_106 rfl (lv_at hl 1 rfl) ?_
    refine r_get X inw_X10 G 0 rfl rfl 0 (by decide) fl_X10_7 (v := .ref (aMO 0)) rfl dX10_keepsStall_107 ?_
    refine lv_iload hx hb dX10_keepsStall_110 (lv_at hl 0 rfl) ?_
    refine lv_iconst (v := 1) hx hb dX10_keepsStall_112 (by decide) ?_
    refine lv_iadd hx hb dX10_keepsStall_113 ?_
    refine lv_iload_n hx hb dX10_keepsStall_114 rfl (lv_at hl 2 rfl) ?_
    obtain ⟨h11, hf⟩ := ix_some hf
    obtain ⟨MO12, eMO12, hf⟩ := nm_some hf
    refine r_iast X G 1 rfl h11 (ws' := kMo k ot aMO (MO12)) (by subst eMO12; rfl) dX10_keepsStall_115 (fun H locs G => ?_)
    refine lv_aload_n hx hb dX10_keepsStall_116 rfl (lv_at hl 1 rfl) ?_
    refine r_get X inw_X10 G 0 rfl rfl 0 (by decide) fl_X10_7 (v := .ref (aMO 0)) rfl dX10_keepsStall_117 ?_
    refine lv_iload hx hb dX10_keepsStall_120 (lv_at hl 0 rfl) ?_
    refine lv_iconst (v := 2) hx hb dX10_keepsStall_122 (by decide) ?_
    refine lv_iadd hx hb dX10_keepsStall_123 ?_
    refine lv_iload_n hx hb dX10_keepsStall_124 rfl (lv_at hl 3 rfl) ?_
    obtain ⟨h13, hf⟩ := ix_some hf
    obtain ⟨MO14, eMO14, hf⟩ := nm_some hf
    refine r_iast X G 1 rfl h13 (ws' := kMo k ot aMO (MO14)) (by subst eMO14; rfl) dX10_keepsStall_125 (fun H locs G => ?_)
    refine lv_aload_n hx hb dX10_keepsStall_126 rfl (lv_at hl 1 rfl) ?_
    refine r_get X inw_X10 G 0 rfl rfl 0 (by decide) fl_X10_7 (v := .ref (aMO 0)) rfl dX10_keepsStall_127 ?_
    refine lv_iload hx hb dX10_keepsStall_130 (lv_at hl 0 rfl) ?_
    refine lv_iconst (v := 3) hx hb dX10_keepsStall_132 (by decide) ?_
    refine lv_iadd hx hb dX10_keepsStall_133 ?_
    refine lv_aload_n hx hb dX10_keepsStall_134 rfl (lv_at hl 1 rfl) ?_
    refine lv_iload_n hx hb dX10_keepsStall_135 rfl (lv_at hl 2 rfl) ?_
    refine lv_iload_n hx hb dX10_keepsStall_136 rfl (lv_at hl 4 rfl) ?_
    obtain ⟨r15, hcr15, hf⟩ := bd_some hf
    refine p_N (st1 := [.int (r15.1), .int (x6 + (3 : Int32)), .ref (aMO 0)]) (wr := []) (ws' := kMo k ot aMO (r15.2)) (run_V (rest := [.int (x6 + (3 : Int32)), .ref (aMO 0)]) X (ctX10_blocker hZ ot aMO hcr15) mk_X10_blocker ml_X10_119 ⟨(Nat.le_of_ble_eq_true rfl), (Nat.le_of_ble_eq_true rfl)⟩ G [0, 1, 2, 3, 4, 5, 6, 7] rfl rfl 0 rfl rfl rfl hl.1 rfl (Nat.le_of_ble_eq_true rfl) dX10_keepsStall_137 ⟨Nat.zero_le _, Nat.zero_le _⟩) rfl G [0, 1, 2, 3, 4, 5, 6, 7] [] 8 rfl rfl rfl rfl rfl (by decide) (by decide) rfl (fun H locs G => ?_)
    obtain ⟨h16, hf⟩ := ix_some hf
    obtain ⟨MO17, eMO17, hf⟩ := nm_some hf
    refine r_iast X G 1 rfl h16 (ws' := kMo k ot aMO (MO17)) (by subst eMO17; rfl) dX10_keepsStall_140 (fun H locs G => ?_)
    refine lv_aload_n hx hb dX10_keepsStall_141 rfl (lv_at hl 1 rfl) ?_
    refine r_get X inw_X10 G 0 rfl rfl 0 (by decide) fl_X10_7 (v := .ref (aMO 0)) rfl dX10_keepsStall_142 ?_
    refine lv_iload hx hb dX10_keepsStall_145 (lv_at hl 0 rfl) ?_
    refine lv_iconst (v := 4) hx hb dX10_keepsStall_147 (by decide) ?_
    refine lv_iadd hx hb dX10_keepsStall_148 ?_
    refine lv_aload_n hx hb dX10_keepsStall_149 rfl (lv_at hl 1 rfl) ?_
    refine lv_iload_n hx hb dX10_keepsStall_150 rfl (lv_at hl 2 rfl) ?_
    refine lv_iload_n hx hb dX10_keepsStall_151 rfl (lv_at hl 4 rfl) ?_
    obtain ⟨r18, hcr18, hf⟩ := bd_some hf
    refine p_R (st1 := [.int r18, .int (x6 + (4 : Int32)), .ref (aMO 0)]) (run_V (rest := [.int (x6 + (4 : Int32)), .ref (aMO 0)]) X (ctX10_neighbour hZ ot aMO hcr18) mk_X10_neighbour ml_X10_122 ⟨(Nat.le_of_ble_eq_true rfl), (Nat.le_of_ble_eq_true rfl)⟩ G [0, 1, 2, 3, 4, 5, 6, 7] rfl rfl 0 rfl rfl rfl hl.1 rfl (Nat.le_of_ble_eq_true rfl) dX10_keepsStall_152 ⟨Nat.zero_le _, Nat.zero_le _⟩) rfl ?_
    obtain ⟨h19, hf⟩ := ix_some hf
    obtain ⟨MO20, eMO20, hf⟩ := nm_some hf
    refine r_iast X G 1 rfl h19 (ws' := kMo k ot aMO (MO20)) (by subst eMO20; rfl) dX10_keepsStall_155 (fun H locs G => ?_)
    refine lv_aload_n hx hb dX10_keepsStall_156 rfl (lv_at hl 1 rfl) ?_
    refine r_get X inw_X10 G 0 rfl rfl 0 (by decide) fl_X10_7 (v := .ref (aMO 0)) rfl dX10_keepsStall_157 ?_
    refine lv_aload_n hx hb dX10_keepsStall_160 rfl (lv_at hl 1 rfl) ?_
    refine r_get X inw_X10 G 0 rfl rfl 7 (by decide) fl_X10_40 (v := .int (Mo_b MO20)) rfl dX10_keepsStall_161 ?_
    refine lv_sipush (v := 322) hx hb dX10_keepsStall_164 (by decide) ?_
    refine lv_iadd hx hb dX10_keepsStall_167 ?_
    refine lv_dup2_11 hx hb dX10_keepsStall_168 rfl rfl ?_
    obtain ⟨x21, ex21, hf⟩ := nm_some hf
    refine r_top (congrArg Value.int ex21) ?_
    obtain ⟨h22, hf⟩ := ix_some hf
    refine r_iald X G 1 rfl h22 dX10_keepsStall_169 ?_
    refine lv_iconst (v := 1) hx hb dX10_keepsStall_170 (by decide) ?_
    refine lv_iadd hx hb dX10_keepsStall_171 ?_
    obtain ⟨h23, hf⟩ := ix_some hf
    obtain ⟨MO24, eMO24, hf⟩ := nm_some hf
    refine r_iast X G 1 rfl h23 (ws' := kMo k ot aMO (MO24)) (by subst eMO24; rfl) dX10_keepsStall_172 (fun H locs G => ?_)
    refine lv_aload_n hx hb dX10_keepsStall_173 rfl (lv_at hl 1 rfl) ?_
    refine r_get X inw_X10 G 0 rfl rfl 0 (by decide) fl_X10_7 (v := .ref (aMO 0)) rfl dX10_keepsStall_174 ?_
    refine lv_aload_n hx hb dX10_keepsStall_177 rfl (lv_at hl 1 rfl) ?_
    refine r_get X inw_X10 G 0 rfl rfl 7 (by decide) fl_X10_40 (v := .int (Mo_b MO24)) rfl dX10_keepsStall_178 ?_
    refine lv_sipush (v := 323) hx hb dX10_keepsStall_181 (by decide) ?_
    refine lv_iadd hx hb dX10_keepsStall_184 ?_
    refine lv_dup2_11 hx hb dX10_keepsStall_185 rfl rfl ?_
    obtain ⟨x25, ex25, hf⟩ := nm_some hf
    refine r_top (congrArg Value.int ex25) ?_
    obtain ⟨h26, hf⟩ := ix_some hf
    refine r_iald X G 1 rfl h26 dX10_keepsStall_186 ?_
    refine lv_iconst (v := 1) hx hb dX10_keepsStall_187 (by decide) ?_
    refine lv_iadd hx hb dX10_keepsStall_188 ?_
    obtain ⟨h27, hf⟩ := ix_some hf
    obtain ⟨MO28, eMO28, hf⟩ := nm_some hf
    refine r_iast X G 1 rfl h27 (ws' := kMo k ot aMO (MO28)) (by subst eMO28; rfl) dX10_keepsStall_189 (fun H locs G => ?_)
    refine lv_aload_n hx hb dX10_keepsStall_190 rfl (lv_at hl 1 rfl) ?_
    refine r_get X inw_X10 G 0 rfl rfl 0 (by decide) fl_X10_7 (v := .ref (aMO 0)) rfl dX10_keepsStall_191 ?_
    refine lv_aload_n hx hb dX10_keepsStall_194 rfl (lv_at hl 1 rfl) ?_
    refine r_get X inw_X10 G 0 rfl rfl 7 (by decide) fl_X10_40 (v := .int (Mo_b MO28)) rfl dX10_keepsStall_195 ?_
    refine lv_sipush (v := 314) hx hb dX10_keepsStall_198 (by decide) ?_
    refine lv_iadd hx hb dX10_keepsStall_201 ?_
    refine lv_iload_n hx hb dX10_keepsStall_202 rfl (lv_at hl 2 rfl) ?_
    refine lv_iadd hx hb dX10_keepsStall_203 ?_
    refine lv_dup2_11 hx hb dX10_keepsStall_204 rfl rfl ?_
    obtain ⟨x29, ex29, hf⟩ := nm_some hf
    refine r_top (congrArg Value.int ex29) ?_
    obtain ⟨h30, hf⟩ := ix_some hf
    refine r_iald X G 1 rfl h30 dX10_keepsStall_205 ?_
    refine lv_iconst (v := 1) hx hb dX10_keepsStall_206 (by decide) ?_
    refine lv_iload_n hx hb dX10_keepsStall_207 rfl (lv_at hl 3 rfl) ?_
    refine lv_ishl hx hb dX10_keepsStall_208 ?_
    refine lv_ior hx hb dX10_keepsStall_209 ?_
    obtain ⟨h31, hf⟩ := ix_some hf
    obtain ⟨MO32, eMO32, hf⟩ := nm_some hf
    refine r_iast X G 1 rfl h31 (ws' := kMo k ot aMO (MO32)) (by subst eMO32; rfl) dX10_keepsStall_210 (fun H locs G => ?_)
    cases hf
    exact e_mv X G dX10_keepsStall_211
  refine lv_icmp_ne (tgt := 60) hx hb dX10_keepsStall_15 (by decide) (fun c33 => ?_) (fun c33 => ?_)
  · replace hf := if_f hf c33
    exact JJ3 MO _ _ _ G (lv_sub hl [0, 1, 2, 3] rfl) hf
  · replace hf := if_t hf c33
    refine lv_aload_n hx hb dX10_keepsStall_18 rfl (lv_at hl 0 rfl) ?_
    refine lv_aload_n hx hb dX10_keepsStall_19 rfl (lv_at hl 0 rfl) ?_
    refine r_get X inw_X10 G 0 rfl rfl 7 (by decide) fl_X10_40 (v := .int (Mo_b MO)) rfl dX10_keepsStall_20 ?_
    refine lv_sipush (v := 324) hx hb dX10_keepsStall_23 (by decide) ?_
    refine lv_iadd hx hb dX10_keepsStall_26 ?_
    refine lv_iconst (v := 5) hx hb dX10_keepsStall_27 (by decide) ?_
    refine lv_iadd hx hb dX10_keepsStall_28 ?_
    refine lv_aload_n hx hb dX10_keepsStall_29 rfl (lv_at hl 0 rfl) ?_
    refine r_get X inw_X10 G 0 rfl rfl 7 (by decide) fl_X10_40 (v := .int (Mo_b MO)) rfl dX10_keepsStall_30 ?_
    refine lv_sipush (v := 324) hx hb dX10_keepsStall_33 (by decide) ?_
    refine lv_iadd hx hb dX10_keepsStall_36 ?_
    refine lv_sipush (v := 145) hx hb dX10_keepsStall_37 (by decide) ?_
    obtain ⟨r34, hcr34, hf⟩ := bd_some hf
    refine p_N (st1 := []) (wr := []) (ws' := kMo k ot aMO (r34)) (run_V (rest := []) X (ctX10_copies hZ ot aMO hcr34) mk_X10_copies ml_X10_103 ⟨(Nat.le_of_ble_eq_true rfl), (Nat.le_of_ble_eq_true rfl)⟩ G [0, 1, 2, 3, 4, 5, 6, 7] rfl rfl 0 rfl rfl rfl hl.1 rfl (Nat.le_of_ble_eq_true rfl) dX10_keepsStall_40 ⟨Nat.zero_le _, Nat.zero_le _⟩) rfl G [0, 1, 2, 3, 4, 5, 6, 7] [] 8 rfl rfl rfl rfl rfl (by decide) (by decide) rfl (fun H locs G => ?_)
    refine lv_aload_n hx hb dX10_keepsStall_43 rfl (lv_at hl 0 rfl) ?_
    refine r_get X inw_X10 G 0 rfl rfl 0 (by decide) fl_X10_7 (v := .ref (aMO 0)) rfl dX10_keepsStall_44 ?_
    refine lv_aload_n hx hb dX10_keepsStall_47 rfl (lv_at hl 0 rfl) ?_
    refine r_get X inw_X10 G 0 rfl rfl 7 (by decide) fl_X10_40 (v := .int (Mo_b r34)) rfl dX10_keepsStall_48 ?_
    refine lv_sipush (v := 322) hx hb dX10_keepsStall_51 (by decide) ?_
    refine lv_iadd hx hb dX10_keepsStall_54 ?_
    refine lv_dup2_11 hx hb dX10_keepsStall_55 rfl rfl ?_
    obtain ⟨x35, ex35, hf⟩ := nm_some hf
    refine r_top (congrArg Value.int ex35) ?_
    obtain ⟨h36, hf⟩ := ix_some hf
    refine r_iald X G 1 rfl h36 dX10_keepsStall_56 ?_
    refine lv_iconst (v := 1) hx hb dX10_keepsStall_57 (by decide) ?_
    refine lv_isub hx hb dX10_keepsStall_58 ?_
    obtain ⟨h37, hf⟩ := ix_some hf
    obtain ⟨MO38, eMO38, hf⟩ := nm_some hf
    refine r_iast X G 1 rfl h37 (ws' := kMo k ot aMO (MO38)) (by subst eMO38; rfl) dX10_keepsStall_59 (fun H locs G => ?_)
    exact JJ3 MO38 _ _ _ G (lv_sub hl [0, 1, 2, 3] rfl) hf
theorem mk_X10_keepsStall : MV yX10_keepsStall cX10_keepsStall 5 none 3 := ⟨co_X10_keepsStall, in_X10, im_X10_keepsStall, se_X10_keepsStall, by decide +kernel, by decide +kernel⟩
noncomputable def FX10_kindOf (MO : MoT) (v1 : Int32) (v2 : Int32) : Option (Int32) :=
  (FX10_has v2 v1).bind fun r1 =>
  if (bI r1) = 0 then (
    (FX10_isSoft MO v1 v2).bind fun r3 =>
    if (bI r3) = 0 then (
      (FX10_isSlow MO v1).bind fun r5 =>
      if (bI r5) = 0 then (
        some (-1 : Int32)
      ) else (
        some (2 : Int32)
      )
    ) else (
      some (1 : Int32)
    )
  ) else (
    (FX10_quiet MO v1).bind fun r7 =>
    nm ((Mo_b MO) + (1 : Int32)) fun x8 =>
    ix x8 9519 <|
    if r7 < (Mo_all MO (Int32.toNatClampNeg x8)) then (
      some (-1 : Int32)
    ) else (
      some (0 : Int32)
    )
  )
set_option maxHeartbeats 4000000 in
set_option maxRecDepth 100000 in
theorem ctX10_kindOf {l : Launch} {D : va_G} {k : Nat → ClassId} {Z : ZT} (hZ : ZOK Z) (ot : Nat) (aMO : Nat → Nat) {MO : MoT} {v1 : Int32} {v2 : Int32} {q : Int32} (hf : FX10_kindOf MO v1 v2 = some q) :
    CR l D k Z yX10_kindOf cX10_kindOf 3 (some .int) 5 108 [.ref ot, .int v1, .int v2] (some (.int q)) (kMo k ot aMO (MO)) := by
  refine CR.start hZ (by decide) (Nat.le_of_ble_eq_true rfl) ?_
  intro p e s m below meth c ls X hl G
  have hx := X.1
  have hb := X.2.1
  have hl : lv_has ls 3 [(0, .ref ot), (1, .int v1), (2, .int v2)] := hl
  unfold FX10_kindOf at hf
  refine lv_iload_n hx hb dX10_kindOf_0 rfl (lv_at hl 2 rfl) ?_
  refine lv_iload_n hx hb dX10_kindOf_1 rfl (lv_at hl 1 rfl) ?_
  obtain ⟨r1, hcr1, hf⟩ := bd_some hf
  refine p_R (st1 := [.int (bI r1)]) (run_S (rest := []) X (ctX10_has hZ hcr1) mk_X10_has ml_X10_96 ⟨(Nat.le_of_ble_eq_true rfl), (Nat.le_of_ble_eq_true rfl)⟩ G [] rfl rfl rfl hl.1 rfl (Nat.le_of_ble_eq_true rfl) dX10_kindOf_2 ⟨Nat.zero_le _, Nat.zero_le _⟩) rfl ?_
  refine lv_if_eq (tgt := 33) hx hb dX10_kindOf_5 (by decide) (fun c2 => ?_) (fun c2 => ?_)
  · replace hf := if_t hf c2
    refine lv_aload_n hx hb dX10_kindOf_33 rfl (lv_at hl 0 rfl) ?_
    refine lv_iload_n hx hb dX10_kindOf_34 rfl (lv_at hl 1 rfl) ?_
    refine lv_iload_n hx hb dX10_kindOf_35 rfl (lv_at hl 2 rfl) ?_
    obtain ⟨r3, hcr3, hf⟩ := bd_some hf
    refine p_R (st1 := [.int (bI r3)]) (run_V (rest := []) X (ctX10_isSoft hZ ot aMO hcr3) mk_X10_isSoft ml_X10_125 ⟨(Nat.le_of_ble_eq_true rfl), (Nat.le_of_ble_eq_true rfl)⟩ G [0, 1, 2, 3, 4, 5, 6, 7] rfl rfl 0 rfl rfl rfl hl.1 rfl (Nat.le_of_ble_eq_true rfl) dX10_kindOf_36 ⟨Nat.zero_le _, Nat.zero_le _⟩) rfl ?_
    refine lv_if_eq (tgt := 46) hx hb dX10_kindOf_39 (by decide) (fun c4 => ?_) (fun c4 => ?_)
    · replace hf := if_t hf c4
      refine lv_aload_n hx hb dX10_kindOf_46 rfl (lv_at hl 0 rfl) ?_
      refine lv_iload_n hx hb dX10_kindOf_47 rfl (lv_at hl 1 rfl) ?_
      obtain ⟨r5, hcr5, hf⟩ := bd_some hf
      refine p_R (st1 := [.int (bI r5)]) (run_V (rest := []) X (ctX10_isSlow hZ ot aMO hcr5) mk_X10_isSlow ml_X10_128 ⟨(Nat.le_of_ble_eq_true rfl), (Nat.le_of_ble_eq_true rfl)⟩ G [0, 1, 2, 3, 4, 5, 6, 7] rfl rfl 0 rfl rfl rfl hl.1 rfl (Nat.le_of_ble_eq_true rfl) dX10_kindOf_48 ⟨Nat.zero_le _, Nat.zero_le _⟩) rfl ?_
      refine lv_if_eq (tgt := 58) hx hb dX10_kindOf_51 (by decide) (fun c6 => ?_) (fun c6 => ?_)
      · replace hf := if_t hf c6
        refine lv_iconst (v := -1) hx hb dX10_kindOf_58 (by decide) ?_
        cases hf
        exact e_ri X dX10_kindOf_59
      · replace hf := if_f hf c6
        refine lv_iconst (v := 2) hx hb dX10_kindOf_54 (by decide) ?_
        refine lv_goto (tgt := 59) hx hb dX10_kindOf_55 (by decide) ?_
        cases hf
        exact e_ri X dX10_kindOf_59
    · replace hf := if_f hf c4
      refine lv_iconst (v := 1) hx hb dX10_kindOf_42 (by decide) ?_
      refine lv_goto (tgt := 59) hx hb dX10_kindOf_43 (by decide) ?_
      cases hf
      exact e_ri X dX10_kindOf_59
  · replace hf := if_f hf c2
    refine lv_aload_n hx hb dX10_kindOf_8 rfl (lv_at hl 0 rfl) ?_
    refine lv_iload_n hx hb dX10_kindOf_9 rfl (lv_at hl 1 rfl) ?_
    obtain ⟨r7, hcr7, hf⟩ := bd_some hf
    refine p_R (st1 := [.int r7]) (run_V (rest := []) X (ctX10_quiet hZ ot aMO hcr7) mk_X10_quiet ml_X10_100 ⟨(Nat.le_of_ble_eq_true rfl), (Nat.le_of_ble_eq_true rfl)⟩ G [0, 1, 2, 3, 4, 5, 6, 7] rfl rfl 0 rfl rfl rfl hl.1 rfl (Nat.le_of_ble_eq_true rfl) dX10_kindOf_10 ⟨Nat.zero_le _, Nat.zero_le _⟩) rfl ?_
    refine lv_aload_n hx hb dX10_kindOf_13 rfl (lv_at hl 0 rfl) ?_
    refine r_get X inw_X10 G 0 rfl rfl 0 (by decide) fl_X10_7 (v := .ref (aMO 0)) rfl dX10_kindOf_14 ?_
    refine lv_aload_n hx hb dX10_kindOf_17 rfl (lv_at hl 0 rfl) ?_
    refine r_get X inw_X10 G 0 rfl rfl 7 (by decide) fl_X10_40 (v := .int (Mo_b MO)) rfl dX10_kindOf_18 ?_
    refine lv_iconst (v := 1) hx hb dX10_kindOf_21 (by decide) ?_
    refine lv_iadd hx hb dX10_kindOf_22 ?_
    obtain ⟨x8, ex8, hf⟩ := nm_some hf
    refine r_top (congrArg Value.int ex8) ?_
    obtain ⟨h9, hf⟩ := ix_some hf
    refine r_iald X G 1 rfl h9 dX10_kindOf_23 ?_
    refine lv_icmp_lt (tgt := 31) hx hb dX10_kindOf_24 (by decide) (fun c10 => ?_) (fun c10 => ?_)
    · replace hf := if_t hf c10
      refine lv_iconst (v := -1) hx hb dX10_kindOf_31 (by decide) ?_
      cases hf
      exact e_ri X dX10_kindOf_32
    · replace hf := if_f hf c10
      refine lv_iconst (v := 0) hx hb dX10_kindOf_27 (by decide) ?_
      refine lv_goto (tgt := 32) hx hb dX10_kindOf_28 (by decide) ?_
      cases hf
      exact e_ri X dX10_kindOf_32
theorem mk_X10_kindOf : MV yX10_kindOf cX10_kindOf 3 (some .int) 2 := ⟨co_X10_kindOf, in_X10, im_X10_kindOf, se_X10_kindOf, by decide +kernel, by decide +kernel⟩
noncomputable def FX10_ticksOnce_19  : (Int32 × MoT) → Option ((Int32 × MoT) ⊕ (MoT)) := fun stL5 =>
  (FX10_workers stL5.2).bind fun r6 =>
  if r6 ≤ stL5.1 then (
    some (.inr stL5.2)
  ) else (
    (FX10_isEnded stL5.2 stL5.1).bind fun r8 =>
    if (bI r8) = 0 then (
      (FX10_does stL5.2 stL5.1).bind fun r11 =>
      nm (stL5.1 + 1) fun x12 =>
      some (.inl (x12, r11))
    ) else (
      nm (stL5.1 + 1) fun x10 =>
      some (.inl (x10, stL5.2))
    )
  )
noncomputable def FX10_ticksOnce_j79 (r13 : Int32) (stL14 : Int32 × MoT) (vJ18 : Int32) : Option ((Int32 × MoT) ⊕ (MoT)) :=
  if vJ18 = (-1 : Int32) then (
    nm (stL14.1 + 1) fun x20 =>
    some (.inl (x20, stL14.2))
  ) else (
    nm (((Mo_b stL14.2) + (314 : Int32)) + stL14.1) fun x21 =>
    ix x21 9519 <|
    (FX10_has (Mo_all stL14.2 (Int32.toNatClampNeg x21)) vJ18).bind fun r23 =>
    if (bI r23) = 0 then (
      (FX10_keepsStall stL14.2 stL14.1 vJ18 r13).bind fun r26 =>
      nm (stL14.1 + 1) fun x27 =>
      some (.inl (x27, r26))
    ) else (
      nm (stL14.1 + 1) fun x25 =>
      some (.inl (x25, stL14.2))
    )
  )
noncomputable def FX10_ticksOnce_53 (r13 : Int32) : (Int32 × MoT) → Option ((Int32 × MoT) ⊕ (MoT)) := fun stL14 =>
  (FX10_workers stL14.2).bind fun r15 =>
  if r15 ≤ stL14.1 then (
    some (.inr stL14.2)
  ) else (
    (FX10_isEnded stL14.2 stL14.1).bind fun r17 =>
    if (bI r17) = 0 then (
      (FX10_kindOf stL14.2 stL14.1 r13).bind fun r29 =>
      FX10_ticksOnce_j79 r13 stL14 r29
    ) else (
      FX10_ticksOnce_j79 r13 stL14 (-1 : Int32)
    )
  )
noncomputable def FX10_ticksOnce (MO : MoT) : Option (MoT) :=
  nm ((Mo_b MO) + (207 : Int32)) fun x1 =>
  ix x1 9519 <|
  ix ((Mo_b MO) + (207 : Int32)) 9519 <|
  nm (sMo_all MO (upd (Mo_all MO) (Int32.toNatClampNeg ((Mo_b MO) + (207 : Int32))) ((Mo_all MO (Int32.toNatClampNeg x1)) + (1 : Int32)))) fun MO4 =>
  (itr FX10_ticksOnce_19 ((0 : Int32), MO4)).bind fun uL5 =>
  (FX10_hard uL5).bind fun r13 =>
  (itr (FX10_ticksOnce_53 r13) ((0 : Int32), uL5)).bind fun uL14 =>
  some uL14
set_option maxHeartbeats 4000000 in
set_option maxRecDepth 100000 in
theorem ctX10_ticksOnce {l : Launch} {D : va_G} {k : Nat → ClassId} {Z : ZT} (hZ : ZOK Z) (ot : Nat) (aMO : Nat → Nat) {MO : MoT} {q : MoT} (hf : FX10_ticksOnce MO = some q) :
    CM l D k Z yX10_ticksOnce cX10_ticksOnce 4 none 10 230 [.ref ot] none (kMo k ot aMO (MO)) (kMo k ot aMO (q)) := by
  refine CM.start hZ (by decide) (Nat.le_of_ble_eq_true rfl) ?_
  intro p e s m below meth c ls X hl G
  have hx := X.1
  have hb := X.2.1
  have hl : lv_has ls 4 [(0, .ref ot)] := hl
  unfold FX10_ticksOnce at hf
  refine lv_aload_n hx hb dX10_ticksOnce_0 rfl (lv_at hl 0 rfl) ?_
  refine r_get X inw_X10 G 0 rfl rfl 0 (by decide) fl_X10_7 (v := .ref (aMO 0)) rfl dX10_ticksOnce_1 ?_
  refine lv_aload_n hx hb dX10_ticksOnce_4 rfl (lv_at hl 0 rfl) ?_
  refine r_get X inw_X10 G 0 rfl rfl 7 (by decide) fl_X10_40 (v := .int (Mo_b MO)) rfl dX10_ticksOnce_5 ?_
  refine lv_sipush (v := 207) hx hb dX10_ticksOnce_8 (by decide) ?_
  refine lv_iadd hx hb dX10_ticksOnce_11 ?_
  refine lv_dup2_11 hx hb dX10_ticksOnce_12 rfl rfl ?_
  obtain ⟨x1, ex1, hf⟩ := nm_some hf
  refine r_top (congrArg Value.int ex1) ?_
  obtain ⟨h2, hf⟩ := ix_some hf
  refine r_iald X G 1 rfl h2 dX10_ticksOnce_13 ?_
  refine lv_iconst (v := 1) hx hb dX10_ticksOnce_14 (by decide) ?_
  refine lv_iadd hx hb dX10_ticksOnce_15 ?_
  obtain ⟨h3, hf⟩ := ix_some hf
  obtain ⟨MO4, eMO4, hf⟩ := nm_some hf
  refine r_iast X G 1 rfl h3 (ws' := kMo k ot aMO (MO4)) (by subst eMO4; rfl) dX10_ticksOnce_16 (fun H locs G => ?_)
  refine lv_iconst (v := 0) hx hb dX10_ticksOnce_17 (by decide) ?_
  refine lv_istore_n (lv' := [(1, .int (0 : Int32)), (0, .ref ot)]) hx hb dX10_ticksOnce_18 rfl hl (by decide) rfl (fun ls hl => ?_)
  obtain ⟨exL5, hitL5, hfL5⟩ := bd_some hf
  obtain ⟨nL5, hitL5⟩ := itr_ex hitL5
  have KL5_0 : ∀ (u : MoT) (H : Heap) (locs : List Loc) (ls : Array Slot), exL5 = u → Wo D (wA (kMo k ot aMO (MO))) s.heap (kMo k ot aMO (u)) H locs → lv_has ls 4 [(0, .ref ot)] → W p l e (rmz 10 230) s m [.ref ot].toArray below meth c H locs 0 0 (MQ below (Qm D none (kMo k ot aMO (MO)) (kMo k ot aMO (q))) [.ref ot].toArray s 0 0 (wA (kMo k ot aMO (MO)))) (F0 m 46 ls []) := by
    intro uL5 H locs ls hex G hl
    rw [hex] at hfL5
    have hf := hfL5
    refine lv_aload_n hx hb dX10_ticksOnce_46 rfl (lv_at hl 0 rfl) ?_
    obtain ⟨r13, hcr13, hf⟩ := bd_some hf
    refine p_R (st1 := [.int r13]) (run_V (rest := []) X (ctX10_hard hZ ot aMO hcr13) mk_X10_hard ml_X10_110 ⟨(Nat.le_of_ble_eq_true rfl), (Nat.le_of_ble_eq_true rfl)⟩ G [0, 1, 2, 3, 4, 5, 6, 7] rfl rfl 0 rfl rfl rfl hl.1 rfl (Nat.le_of_ble_eq_true rfl) dX10_ticksOnce_47 ⟨Nat.zero_le _, Nat.zero_le _⟩) rfl ?_
    refine lv_istore_n (lv' := [(1, .int r13), (0, .ref ot)]) hx hb dX10_ticksOnce_50 rfl hl (by decide) rfl (fun ls hl => ?_)
    refine lv_iconst (v := 0) hx hb dX10_ticksOnce_51 (by decide) ?_
    refine lv_istore_n (lv' := [(2, .int (0 : Int32)), (1, .int r13), (0, .ref ot)]) hx hb dX10_ticksOnce_52 rfl hl (by decide) rfl (fun ls hl => ?_)
    obtain ⟨exL14, hitL14, hfL14⟩ := bd_some hf
    obtain ⟨nL14, hitL14⟩ := itr_ex hitL14
    have KL14_0 : ∀ (u : MoT) (H : Heap) (locs : List Loc) (ls : Array Slot), exL14 = u → Wo D (wA (kMo k ot aMO (MO))) s.heap (kMo k ot aMO (u)) H locs → lv_has ls 4 [] → W p l e (rmz 10 230) s m [.ref ot].toArray below meth c H locs 0 0 (MQ below (Qm D none (kMo k ot aMO (MO)) (kMo k ot aMO (q))) [.ref ot].toArray s 0 0 (wA (kMo k ot aMO (MO)))) (F0 m 120 ls []) := by
      intro uL14 H locs ls hex G hl
      rw [hex] at hfL14
      have hf := hfL14
      cases hf
      exact e_mv X G dX10_ticksOnce_120
    have LL14 : ∀ (n : Nat) (stL14 : Int32 × MoT) (H : Heap) (locs : List Loc) (ls : Array Slot), Wo D (wA (kMo k ot aMO (MO))) s.heap (kMo k ot aMO (stL14.2)) H locs → lv_has ls 4 [(0, .ref ot), (1, .int r13), (2, .int (stL14.1))] → it (FX10_ticksOnce_53 r13) n stL14 = some exL14 → W p l e (rmz 10 230) s m [.ref ot].toArray below meth c H locs 0 0 (MQ below (Qm D none (kMo k ot aMO (MO)) (kMo k ot aMO (q))) [.ref ot].toArray s 0 0 (wA (kMo k ot aMO (MO)))) (F0 m 53 ls []) := by
      intro n
      induction n with
      | zero =>
        intro stL14 H locs ls G hl hit
        exact (it_zero hit).elim
      | succ n ih =>
        intro stL14 H locs ls G hl hit
        obtain ⟨oL14, hf, hoL14⟩ := it_bd hit
        unfold FX10_ticksOnce_53 at hf
        refine lv_iload_n hx hb dX10_ticksOnce_53 rfl (lv_at hl 2 rfl) ?_
        refine lv_aload_n hx hb dX10_ticksOnce_54 rfl (lv_at hl 0 rfl) ?_
        obtain ⟨r15, hcr15, hf⟩ := bd_some hf
        refine p_R (st1 := [.int r15, .int (stL14.1)]) (run_V (rest := [.int (stL14.1)]) X (ctX10_workers hZ ot aMO hcr15) mk_X10_workers ml_X10_43 ⟨(Nat.le_of_ble_eq_true rfl), (Nat.le_of_ble_eq_true rfl)⟩ G [0, 1, 2, 3, 4, 5, 6, 7] rfl rfl 0 rfl rfl rfl hl.1 rfl (Nat.le_of_ble_eq_true rfl) dX10_ticksOnce_55 ⟨Nat.zero_le _, Nat.zero_le _⟩) rfl ?_
        refine lv_icmp_ge (tgt := 120) hx hb dX10_ticksOnce_58 (by decide) (fun c16 => ?_) (fun c16 => ?_)
        · replace hf := if_t hf c16
          cases hf
          exact KL14_0 stL14.2 _ _ _ (it_out hoL14) G (lv_sub hl [] rfl)
        · replace hf := if_f hf c16
          refine lv_aload_n hx hb dX10_ticksOnce_61 rfl (lv_at hl 0 rfl) ?_
          refine lv_iload_n hx hb dX10_ticksOnce_62 rfl (lv_at hl 2 rfl) ?_
          obtain ⟨r17, hcr17, hf⟩ := bd_some hf
          refine p_R (st1 := [.int (bI r17)]) (run_V (rest := []) X (ctX10_isEnded hZ ot aMO hcr17) mk_X10_isEnded ml_X10_81 ⟨(Nat.le_of_ble_eq_true rfl), (Nat.le_of_ble_eq_true rfl)⟩ G [0, 1, 2, 3, 4, 5, 6, 7] rfl rfl 0 rfl rfl rfl hl.1 rfl (Nat.le_of_ble_eq_true rfl) dX10_ticksOnce_63 ⟨Nat.zero_le _, Nat.zero_le _⟩) rfl ?_
          have JJ18 : ∀ (vJ18 : Int32) (H : Heap) (locs : List Loc) (ls : Array Slot), Wo D (wA (kMo k ot aMO (MO))) s.heap (kMo k ot aMO (stL14.2)) H locs → lv_has ls 4 [(0, .ref ot), (1, .int r13), (2, .int (stL14.1))] → FX10_ticksOnce_j79 r13 stL14 vJ18 = some oL14 → W p l e (rmz 10 230) s m [.ref ot].toArray below meth c H locs 0 0 (MQ below (Qm D none (kMo k ot aMO (MO)) (kMo k ot aMO (q))) [.ref ot].toArray s 0 0 (wA (kMo k ot aMO (MO)))) (F0 m 79 ls [.int vJ18]) := by
            intro vJ18 H locs ls G hl hf
            unfold FX10_ticksOnce_j79 at hf
            refine lv_istore_n (lv' := [(3, .int vJ18), (0, .ref ot), (1, .int r13), (2, .int (stL14.1))]) hx hb dX10_ticksOnce_79 rfl hl (by decide) rfl (fun ls hl => ?_)
            refine lv_iload_n hx hb dX10_ticksOnce_80 rfl (lv_at hl 0 rfl) ?_
            refine lv_iconst (v := -1) hx hb dX10_ticksOnce_81 (by decide) ?_
            refine lv_icmp_eq (tgt := 114) hx hb dX10_ticksOnce_82 (by decide) (fun c19 => ?_) (fun c19 => ?_)
            · replace hf := if_t hf c19
              obtain ⟨x20, ex20, hf⟩ := nm_some hf
              refine lv_iinc (v := x20) (lv' := [(2, .int x20), (3, .int vJ18), (0, .ref ot), (1, .int r13)]) hx hb dX10_ticksOnce_114 hl (k := 3) rfl (by subst ex20; rfl) (by decide) rfl (fun ls hl => ?_)
              refine lv_goto (tgt := 53) hx hb dX10_ticksOnce_117 (by decide) ?_
              cases hf
              exact ih (x20, stL14.2) _ _ _ G (lv_sub hl [2, 3, 0] rfl) hoL14
            · replace hf := if_f hf c19
              refine lv_aload_n hx hb dX10_ticksOnce_85 rfl (lv_at hl 1 rfl) ?_
              refine r_get X inw_X10 G 0 rfl rfl 0 (by decide) fl_X10_7 (v := .ref (aMO 0)) rfl dX10_ticksOnce_86 ?_
              refine lv_aload_n hx hb dX10_ticksOnce_89 rfl (lv_at hl 1 rfl) ?_
              refine r_get X inw_X10 G 0 rfl rfl 7 (by decide) fl_X10_40 (v := .int (Mo_b stL14.2)) rfl dX10_ticksOnce_90 ?_
              refine lv_sipush (v := 314) hx hb dX10_ticksOnce_93 (by decide) ?_
              refine lv_iadd hx hb dX10_ticksOnce_96 ?_
              refine lv_iload_n hx hb dX10_ticksOnce_97 rfl (lv_at hl 3 rfl) ?_
              refine lv_iadd hx hb dX10_ticksOnce_98 ?_
              obtain ⟨x21, ex21, hf⟩ := nm_some hf
              refine r_top (congrArg Value.int ex21) ?_
              obtain ⟨h22, hf⟩ := ix_some hf
              refine r_iald X G 1 rfl h22 dX10_ticksOnce_99 ?_
              refine lv_iload_n hx hb dX10_ticksOnce_100 rfl (lv_at hl 0 rfl) ?_
              obtain ⟨r23, hcr23, hf⟩ := bd_some hf
              refine p_R (st1 := [.int (bI r23)]) (run_S (rest := []) X (ctX10_has hZ hcr23) mk_X10_has ml_X10_96 ⟨(Nat.le_of_ble_eq_true rfl), (Nat.le_of_ble_eq_true rfl)⟩ G [] rfl rfl rfl hl.1 rfl (Nat.le_of_ble_eq_true rfl) dX10_ticksOnce_101 ⟨Nat.zero_le _, Nat.zero_le _⟩) rfl ?_
              refine lv_if_ne (tgt := 114) hx hb dX10_ticksOnce_104 (by decide) (fun c24 => ?_) (fun c24 => ?_)
              · replace hf := if_f hf c24
                obtain ⟨x25, ex25, hf⟩ := nm_some hf
                refine lv_iinc (v := x25) (lv' := [(2, .int x25), (3, .int vJ18), (0, .ref ot), (1, .int r13)]) hx hb dX10_ticksOnce_114 hl (k := 3) rfl (by subst ex25; rfl) (by decide) rfl (fun ls hl => ?_)
                refine lv_goto (tgt := 53) hx hb dX10_ticksOnce_117 (by decide) ?_
                cases hf
                exact ih (x25, stL14.2) _ _ _ G (lv_sub hl [2, 3, 0] rfl) hoL14
              · replace hf := if_t hf c24
                refine lv_aload_n hx hb dX10_ticksOnce_107 rfl (lv_at hl 1 rfl) ?_
                refine lv_iload_n hx hb dX10_ticksOnce_108 rfl (lv_at hl 3 rfl) ?_
                refine lv_iload_n hx hb dX10_ticksOnce_109 rfl (lv_at hl 0 rfl) ?_
                refine lv_iload_n hx hb dX10_ticksOnce_110 rfl (lv_at hl 2 rfl) ?_
                obtain ⟨r26, hcr26, hf⟩ := bd_some hf
                refine p_N (st1 := []) (wr := []) (ws' := kMo k ot aMO (r26)) (run_V (rest := []) X (ctX10_keepsStall hZ ot aMO hcr26) mk_X10_keepsStall ml_X10_137 ⟨(Nat.le_of_ble_eq_true rfl), (Nat.le_of_ble_eq_true rfl)⟩ G [0, 1, 2, 3, 4, 5, 6, 7] rfl rfl 0 rfl rfl rfl hl.1 rfl (Nat.le_of_ble_eq_true rfl) dX10_ticksOnce_111 ⟨Nat.zero_le _, Nat.zero_le _⟩) rfl G [0, 1, 2, 3, 4, 5, 6, 7] [] 8 rfl rfl rfl rfl rfl (by decide) (by decide) rfl (fun H locs G => ?_)
                obtain ⟨x27, ex27, hf⟩ := nm_some hf
                refine lv_iinc (v := x27) (lv' := [(2, .int x27), (3, .int vJ18), (0, .ref ot), (1, .int r13)]) hx hb dX10_ticksOnce_114 hl (k := 3) rfl (by subst ex27; rfl) (by decide) rfl (fun ls hl => ?_)
                refine lv_goto (tgt := 53) hx hb dX10_ticksOnce_117 (by decide) ?_
                cases hf
                exact ih (x27, r26) _ _ _ G (lv_sub hl [2, 3, 0] rfl) hoL14
          refine lv_if_eq (tgt := 73) hx hb dX10_ticksOnce_66 (by decide) (fun c28 => ?_) (fun c28 => ?_)
          · replace hf := if_t hf c28
            refine lv_aload_n hx hb dX10_ticksOnce_73 rfl (lv_at hl 0 rfl) ?_
            refine lv_iload_n hx hb dX10_ticksOnce_74 rfl (lv_at hl 2 rfl) ?_
            refine lv_iload_n hx hb dX10_ticksOnce_75 rfl (lv_at hl 1 rfl) ?_
            obtain ⟨r29, hcr29, hf⟩ := bd_some hf
            refine p_R (st1 := [.int r29]) (run_V (rest := []) X (ctX10_kindOf hZ ot aMO hcr29) mk_X10_kindOf ml_X10_134 ⟨(Nat.le_of_ble_eq_true rfl), (Nat.le_of_ble_eq_true rfl)⟩ G [0, 1, 2, 3, 4, 5, 6, 7] rfl rfl 0 rfl rfl rfl hl.1 rfl (Nat.le_of_ble_eq_true rfl) dX10_ticksOnce_76 ⟨Nat.zero_le _, Nat.zero_le _⟩) rfl ?_
            exact JJ18 r29 _ _ _ G (lv_sub hl [0, 1, 2] rfl) hf
          · replace hf := if_f hf c28
            refine lv_iconst (v := -1) hx hb dX10_ticksOnce_69 (by decide) ?_
            refine lv_goto (tgt := 79) hx hb dX10_ticksOnce_70 (by decide) ?_
            exact JJ18 (-1 : Int32) _ _ _ G (lv_sub hl [0, 1, 2] rfl) hf
    exact LL14 nL14 ((0 : Int32), uL5) _ _ _ G (lv_sub hl [2, 1, 0] rfl) hitL14
  have LL5 : ∀ (n : Nat) (stL5 : Int32 × MoT) (H : Heap) (locs : List Loc) (ls : Array Slot), Wo D (wA (kMo k ot aMO (MO))) s.heap (kMo k ot aMO (stL5.2)) H locs → lv_has ls 4 [(0, .ref ot), (1, .int (stL5.1))] → it FX10_ticksOnce_19 n stL5 = some exL5 → W p l e (rmz 10 230) s m [.ref ot].toArray below meth c H locs 0 0 (MQ below (Qm D none (kMo k ot aMO (MO)) (kMo k ot aMO (q))) [.ref ot].toArray s 0 0 (wA (kMo k ot aMO (MO)))) (F0 m 19 ls []) := by
    intro n
    induction n with
    | zero =>
      intro stL5 H locs ls G hl hit
      exact (it_zero hit).elim
    | succ n ih =>
      intro stL5 H locs ls G hl hit
      obtain ⟨oL5, hf, hoL5⟩ := it_bd hit
      unfold FX10_ticksOnce_19 at hf
      refine lv_iload_n hx hb dX10_ticksOnce_19 rfl (lv_at hl 1 rfl) ?_
      refine lv_aload_n hx hb dX10_ticksOnce_20 rfl (lv_at hl 0 rfl) ?_
      obtain ⟨r6, hcr6, hf⟩ := bd_some hf
      refine p_R (st1 := [.int r6, .int (stL5.1)]) (run_V (rest := [.int (stL5.1)]) X (ctX10_workers hZ ot aMO hcr6) mk_X10_workers ml_X10_43 ⟨(Nat.le_of_ble_eq_true rfl), (Nat.le_of_ble_eq_true rfl)⟩ G [0, 1, 2, 3, 4, 5, 6, 7] rfl rfl 0 rfl rfl rfl hl.1 rfl (Nat.le_of_ble_eq_true rfl) dX10_ticksOnce_21 ⟨Nat.zero_le _, Nat.zero_le _⟩) rfl ?_
      refine lv_icmp_ge (tgt := 46) hx hb dX10_ticksOnce_24 (by decide) (fun c7 => ?_) (fun c7 => ?_)
      · replace hf := if_t hf c7
        cases hf
        exact KL5_0 stL5.2 _ _ _ (it_out hoL5) G (lv_sub hl [0] rfl)
      · replace hf := if_f hf c7
        refine lv_aload_n hx hb dX10_ticksOnce_27 rfl (lv_at hl 0 rfl) ?_
        refine lv_iload_n hx hb dX10_ticksOnce_28 rfl (lv_at hl 1 rfl) ?_
        obtain ⟨r8, hcr8, hf⟩ := bd_some hf
        refine p_R (st1 := [.int (bI r8)]) (run_V (rest := []) X (ctX10_isEnded hZ ot aMO hcr8) mk_X10_isEnded ml_X10_81 ⟨(Nat.le_of_ble_eq_true rfl), (Nat.le_of_ble_eq_true rfl)⟩ G [0, 1, 2, 3, 4, 5, 6, 7] rfl rfl 0 rfl rfl rfl hl.1 rfl (Nat.le_of_ble_eq_true rfl) dX10_ticksOnce_29 ⟨Nat.zero_le _, Nat.zero_le _⟩) rfl ?_
        refine lv_if_ne (tgt := 40) hx hb dX10_ticksOnce_32 (by decide) (fun c9 => ?_) (fun c9 => ?_)
        · replace hf := if_f hf c9
          obtain ⟨x10, ex10, hf⟩ := nm_some hf
          refine lv_iinc (v := x10) (lv' := [(1, .int x10), (0, .ref ot)]) hx hb dX10_ticksOnce_40 hl (k := 1) rfl (by subst ex10; rfl) (by decide) rfl (fun ls hl => ?_)
          refine lv_goto (tgt := 19) hx hb dX10_ticksOnce_43 (by decide) ?_
          cases hf
          exact ih (x10, stL5.2) _ _ _ G (lv_sub hl [1, 0] rfl) hoL5
        · replace hf := if_t hf c9
          refine lv_aload_n hx hb dX10_ticksOnce_35 rfl (lv_at hl 0 rfl) ?_
          refine lv_iload_n hx hb dX10_ticksOnce_36 rfl (lv_at hl 1 rfl) ?_
          obtain ⟨r11, hcr11, hf⟩ := bd_some hf
          refine p_N (st1 := []) (wr := []) (ws' := kMo k ot aMO (r11)) (run_V (rest := []) X (ctX10_does hZ ot aMO hcr11) mk_X10_does ml_X10_131 ⟨(Nat.le_of_ble_eq_true rfl), (Nat.le_of_ble_eq_true rfl)⟩ G [0, 1, 2, 3, 4, 5, 6, 7] rfl rfl 0 rfl rfl rfl hl.1 rfl (Nat.le_of_ble_eq_true rfl) dX10_ticksOnce_37 ⟨Nat.zero_le _, Nat.zero_le _⟩) rfl G [0, 1, 2, 3, 4, 5, 6, 7] [] 8 rfl rfl rfl rfl rfl (by decide) (by decide) rfl (fun H locs G => ?_)
          obtain ⟨x12, ex12, hf⟩ := nm_some hf
          refine lv_iinc (v := x12) (lv' := [(1, .int x12), (0, .ref ot)]) hx hb dX10_ticksOnce_40 hl (k := 1) rfl (by subst ex12; rfl) (by decide) rfl (fun ls hl => ?_)
          refine lv_goto (tgt := 19) hx hb dX10_ticksOnce_43 (by decide) ?_
          cases hf
          exact ih (x12, r11) _ _ _ G (lv_sub hl [1, 0] rfl) hoL5
  exact LL5 nL5 ((0 : Int32), MO4) _ _ _ G (lv_sub hl [1, 0] rfl) hitL5
theorem mk_X10_ticksOnce : MV yX10_ticksOnce cX10_ticksOnce 4 none 0 := ⟨co_X10_ticksOnce, in_X10, im_X10_ticksOnce, se_X10_ticksOnce, by decide +kernel, by decide +kernel⟩
noncomputable def FX10_ticksOf_16 (v1 : Int32) : (Int32 × MoT) → Option ((Int32 × MoT) ⊕ (MoT)) := fun stL4 =>
  if v1 ≤ stL4.1 then (
    some (.inr stL4.2)
  ) else (
    (FX10_ticksOnce stL4.2).bind fun r6 =>
    nm (stL4.1 + 1) fun x7 =>
    some (.inl (x7, r6))
  )
noncomputable def FX10_ticksOf (MO : MoT) (v1 : Int32) : Option (Int32 × MoT) :=
  nm ((Mo_b MO) + (323 : Int32)) fun x1 =>
  ix x1 9519 <|
  nm (Mo_all MO (Int32.toNatClampNeg x1)) fun x3 =>
  (itr (FX10_ticksOf_16 v1) ((0 : Int32), MO)).bind fun uL4 =>
  nm ((Mo_b uL4) + (323 : Int32)) fun x8 =>
  ix x8 9519 <|
  some ((Mo_all uL4 (Int32.toNatClampNeg x8)) - x3, uL4)
set_option maxHeartbeats 4000000 in
set_option maxRecDepth 100000 in
theorem ctX10_ticksOf {l : Launch} {D : va_G} {k : Nat → ClassId} {Z : ZT} (hZ : ZOK Z) (ot : Nat) (aMO : Nat → Nat) {MO : MoT} {v1 : Int32} {q : Int32 × MoT} (hf : FX10_ticksOf MO v1 = some q) :
    CM l D k Z yX10_ticksOf cX10_ticksOf 4 (some .int) 11 253 [.ref ot, .int v1] (some (.int q.1)) (kMo k ot aMO (MO)) (kMo k ot aMO (q.2)) := by
  refine CM.start hZ (by decide) (Nat.le_of_ble_eq_true rfl) ?_
  intro p e s m below meth c ls X hl G
  have hx := X.1
  have hb := X.2.1
  have hl : lv_has ls 4 [(0, .ref ot), (1, .int v1)] := hl
  unfold FX10_ticksOf at hf
  refine lv_aload_n hx hb dX10_ticksOf_0 rfl (lv_at hl 0 rfl) ?_
  refine r_get X inw_X10 G 0 rfl rfl 0 (by decide) fl_X10_7 (v := .ref (aMO 0)) rfl dX10_ticksOf_1 ?_
  refine lv_aload_n hx hb dX10_ticksOf_4 rfl (lv_at hl 0 rfl) ?_
  refine r_get X inw_X10 G 0 rfl rfl 7 (by decide) fl_X10_40 (v := .int (Mo_b MO)) rfl dX10_ticksOf_5 ?_
  refine lv_sipush (v := 323) hx hb dX10_ticksOf_8 (by decide) ?_
  refine lv_iadd hx hb dX10_ticksOf_11 ?_
  obtain ⟨x1, ex1, hf⟩ := nm_some hf
  refine r_top (congrArg Value.int ex1) ?_
  obtain ⟨h2, hf⟩ := ix_some hf
  refine r_iald X G 1 rfl h2 dX10_ticksOf_12 ?_
  obtain ⟨x3, ex3, hf⟩ := nm_some hf
  refine r_top (congrArg Value.int ex3) ?_
  refine lv_istore_n (lv' := [(2, .int x3), (0, .ref ot), (1, .int v1)]) hx hb dX10_ticksOf_13 rfl hl (by decide) rfl (fun ls hl => ?_)
  refine lv_iconst (v := 0) hx hb dX10_ticksOf_14 (by decide) ?_
  refine lv_istore_n (lv' := [(3, .int (0 : Int32)), (2, .int x3), (0, .ref ot), (1, .int v1)]) hx hb dX10_ticksOf_15 rfl hl (by decide) rfl (fun ls hl => ?_)
  obtain ⟨exL4, hitL4, hfL4⟩ := bd_some hf
  obtain ⟨nL4, hitL4⟩ := itr_ex hitL4
  have KL4_0 : ∀ (u : MoT) (H : Heap) (locs : List Loc) (ls : Array Slot), exL4 = u → Wo D (wA (kMo k ot aMO (MO))) s.heap (kMo k ot aMO (u)) H locs → lv_has ls 4 [(0, .ref ot), (2, .int x3)] → W p l e (rmz 11 253) s m [.ref ot, .int v1].toArray below meth c H locs 0 0 (MQ below (Qm D (some (.int q.1)) (kMo k ot aMO (MO)) (kMo k ot aMO (q.2))) [.ref ot, .int v1].toArray s 0 0 (wA (kMo k ot aMO (MO)))) (F0 m 31 ls []) := by
    intro uL4 H locs ls hex G hl
    rw [hex] at hfL4
    have hf := hfL4
    refine lv_aload_n hx hb dX10_ticksOf_31 rfl (lv_at hl 0 rfl) ?_
    refine r_get X inw_X10 G 0 rfl rfl 0 (by decide) fl_X10_7 (v := .ref (aMO 0)) rfl dX10_ticksOf_32 ?_
    refine lv_aload_n hx hb dX10_ticksOf_35 rfl (lv_at hl 0 rfl) ?_
    refine r_get X inw_X10 G 0 rfl rfl 7 (by decide) fl_X10_40 (v := .int (Mo_b uL4)) rfl dX10_ticksOf_36 ?_
    refine lv_sipush (v := 323) hx hb dX10_ticksOf_39 (by decide) ?_
    refine lv_iadd hx hb dX10_ticksOf_42 ?_
    obtain ⟨x8, ex8, hf⟩ := nm_some hf
    refine r_top (congrArg Value.int ex8) ?_
    obtain ⟨h9, hf⟩ := ix_some hf
    refine r_iald X G 1 rfl h9 dX10_ticksOf_43 ?_
    refine lv_iload_n hx hb dX10_ticksOf_44 rfl (lv_at hl 1 rfl) ?_
    refine lv_isub hx hb dX10_ticksOf_45 ?_
    cases hf
    exact e_mi X G dX10_ticksOf_46
  have LL4 : ∀ (n : Nat) (stL4 : Int32 × MoT) (H : Heap) (locs : List Loc) (ls : Array Slot), Wo D (wA (kMo k ot aMO (MO))) s.heap (kMo k ot aMO (stL4.2)) H locs → lv_has ls 4 [(0, .ref ot), (1, .int v1), (2, .int x3), (3, .int (stL4.1))] → it (FX10_ticksOf_16 v1) n stL4 = some exL4 → W p l e (rmz 11 253) s m [.ref ot, .int v1].toArray below meth c H locs 0 0 (MQ below (Qm D (some (.int q.1)) (kMo k ot aMO (MO)) (kMo k ot aMO (q.2))) [.ref ot, .int v1].toArray s 0 0 (wA (kMo k ot aMO (MO)))) (F0 m 16 ls []) := by
    intro n
    induction n with
    | zero =>
      intro stL4 H locs ls G hl hit
      exact (it_zero hit).elim
    | succ n ih =>
      intro stL4 H locs ls G hl hit
      obtain ⟨oL4, hf, hoL4⟩ := it_bd hit
      unfold FX10_ticksOf_16 at hf
      refine lv_iload_n hx hb dX10_ticksOf_16 rfl (lv_at hl 3 rfl) ?_
      refine lv_iload_n hx hb dX10_ticksOf_17 rfl (lv_at hl 1 rfl) ?_
      refine lv_icmp_ge (tgt := 31) hx hb dX10_ticksOf_18 (by decide) (fun c5 => ?_) (fun c5 => ?_)
      · replace hf := if_t hf c5
        cases hf
        exact KL4_0 stL4.2 _ _ _ (it_out hoL4) G (lv_sub hl [0, 2] rfl)
      · replace hf := if_f hf c5
        refine lv_aload_n hx hb dX10_ticksOf_21 rfl (lv_at hl 0 rfl) ?_
        obtain ⟨r6, hcr6, hf⟩ := bd_some hf
        refine p_N (st1 := []) (wr := []) (ws' := kMo k ot aMO (r6)) (run_V (rest := []) X (ctX10_ticksOnce hZ ot aMO hcr6) mk_X10_ticksOnce ml_X10_140 ⟨(Nat.le_of_ble_eq_true rfl), (Nat.le_of_ble_eq_true rfl)⟩ G [0, 1, 2, 3, 4, 5, 6, 7] rfl rfl 0 rfl rfl rfl hl.1 rfl (Nat.le_of_ble_eq_true rfl) dX10_ticksOf_22 ⟨Nat.zero_le _, Nat.zero_le _⟩) rfl G [0, 1, 2, 3, 4, 5, 6, 7] [] 8 rfl rfl rfl rfl rfl (by decide) (by decide) rfl (fun H locs G => ?_)
        obtain ⟨x7, ex7, hf⟩ := nm_some hf
        refine lv_iinc (v := x7) (lv' := [(3, .int x7), (0, .ref ot), (1, .int v1), (2, .int x3)]) hx hb dX10_ticksOf_25 hl (k := 3) rfl (by subst ex7; rfl) (by decide) rfl (fun ls hl => ?_)
        refine lv_goto (tgt := 16) hx hb dX10_ticksOf_28 (by decide) ?_
        cases hf
        exact ih (x7, r6) _ _ _ G (lv_sub hl [1, 2, 3, 0] rfl) hoL4
  exact LL4 nL4 ((0 : Int32), MO) _ _ _ G (lv_sub hl [2, 3, 1, 0] rfl) hitL4
theorem mk_X10_ticksOf : MV yX10_ticksOf cX10_ticksOf 4 (some .int) 1 := ⟨co_X10_ticksOf, in_X10, im_X10_ticksOf, se_X10_ticksOf, by decide +kernel, by decide +kernel⟩
