noncomputable def FX7_leastOf (v1 : Int32) : Option (Int32) :=
  if 0 < v1 then (
    (FJ6_numberOfTrailingZeros_0f7a4 v1).bind fun r2 =>
    some r2
  ) else (
    some (-1 : Int32)
  )
set_option maxHeartbeats 4000000 in
set_option maxRecDepth 100000 in
theorem ctX7_leastOf {l : Launch} {D : va_G} {k : Nat → ClassId} {Z : ZT} (hZ : ZOK Z)  {v1 : Int32} {q : Int32} (hf : FX7_leastOf v1 = some q) :
    CR l D k Z yX7_leastOf cX7_leastOf 1 (some .int) 1 21 [.int v1] (some (.int q)) ([]) := by
  refine CR.start hZ (by decide) (Nat.le_of_ble_eq_true rfl) ?_
  intro p e s m below meth c ls X hl G
  have hx := X.1
  have hb := X.2.1
  have hl : lv_has ls 1 [(0, .int v1)] := hl
  unfold FX7_leastOf at hf
  refine lv_iload_n hx hb dX7_leastOf_0 rfl (lv_at hl 0 rfl) ?_
  refine lv_if_gt (tgt := 8) hx hb dX7_leastOf_1 (by decide) (fun c1 => ?_) (fun c1 => ?_)
  · replace hf := if_t hf c1
    refine lv_iload_n hx hb dX7_leastOf_8 rfl (lv_at hl 0 rfl) ?_
    obtain ⟨r2, hcr2, hf⟩ := bd_some hf
    refine p_R (st1 := [.int r2]) (run_S (rest := []) X (ctJ6_numberOfTrailingZeros_0f7a4 hZ hcr2) mk_J6_numberOfTrailingZeros_0f7a4 ml_X7_123 ⟨(Nat.le_of_ble_eq_true rfl), (Nat.le_of_ble_eq_true rfl)⟩ G [] rfl rfl rfl hl.1 rfl (Nat.le_of_ble_eq_true rfl) dX7_leastOf_9 ⟨Nat.zero_le _, Nat.zero_le _⟩) rfl ?_
    cases hf
    exact e_ri X dX7_leastOf_12
  · replace hf := if_f hf c1
    refine lv_iconst (v := -1) hx hb dX7_leastOf_4 (by decide) ?_
    refine lv_goto (tgt := 12) hx hb dX7_leastOf_5 (by decide) ?_
    cases hf
    exact e_ri X dX7_leastOf_12
theorem mk_X7_leastOf : MS yX7_leastOf cX7_leastOf 1 (some .int) 1 := ⟨co_X7_leastOf, in_X7, st_X7_leastOf, trivial, by decide +kernel, by decide +kernel⟩
noncomputable def FX7_pathPlace_2 (VW : VwT) (v1 : Int32) : Int32 → Option ((Int32) ⊕ ((Unit) ⊕ (Int32))) := fun stL1 =>
  if (Vw_pathLength VW) ≤ stL1 then (
    some (.inr (.inl ()))
  ) else (
    ix stL1 8 <|
    if (Vw_path VW (Int32.toNatClampNeg stL1)) = v1 then (
      some (.inr (.inr (stL1)))
    ) else (
      nm (stL1 + 1) fun x5 =>
      some (.inl x5)
    )
  )
noncomputable def FX7_pathPlace (VW : VwT) (v1 : Int32) : Option (Int32) :=
  (itr (FX7_pathPlace_2 VW v1) (0 : Int32)).bind fun exL1 =>
  Sum.elim (fun uL1 =>
    some (Vw_pathLength VW)
  )
  (fun uL1 =>
    some uL1
  ) exL1
set_option maxHeartbeats 4000000 in
set_option maxRecDepth 100000 in
theorem ctX7_pathPlace {l : Launch} {D : va_G} {k : Nat → ClassId} {Z : ZT} (hZ : ZOK Z) (ot : Nat) (aVW : Nat → Nat) {VW : VwT} {v1 : Int32} {q : Int32} (hf : FX7_pathPlace VW v1 = some q) :
    CR l D k Z yX7_pathPlace cX7_pathPlace 3 (some .int) 0 0 [.ref ot, .int v1] (some (.int q)) (kVw k ot aVW (VW)) := by
  refine CR.start hZ (by decide) (Nat.le_of_ble_eq_true rfl) ?_
  intro p e s m below meth c ls X hl G
  have hx := X.1
  have hb := X.2.1
  have hl : lv_has ls 3 [(0, .ref ot), (1, .int v1)] := hl
  unfold FX7_pathPlace at hf
  refine lv_iconst (v := 0) hx hb dX7_pathPlace_0 (by decide) ?_
  refine lv_istore_n (lv' := [(2, .int (0 : Int32)), (0, .ref ot), (1, .int v1)]) hx hb dX7_pathPlace_1 rfl hl (by decide) rfl (fun ls hl => ?_)
  obtain ⟨exL1, hitL1, hfL1⟩ := bd_some hf
  obtain ⟨nL1, hitL1⟩ := itr_ex hitL1
  have KL1_0 : ∀ (u : Unit) (ls : Array Slot), exL1 = Sum.inl u → lv_has ls 3 [(0, .ref ot)] → W p l e (rmz 0 0) s m [.ref ot, .int v1].toArray below meth c s.heap [] 0 0 (MQ below (Qr (some (.int q))) [.ref ot, .int v1].toArray s 0 0 (fun _ => False)) (F0 m 28 ls []) := by
    intro uL1 ls hex hl
    rw [hex] at hfL1
    have hf := hfL1
    replace hf := sl_l hf
    refine lv_aload_n hx hb dX7_pathPlace_28 rfl (lv_at hl 0 rfl) ?_
    refine r_get X inw_X7 G 0 rfl rfl 11 (by decide) fl_X7_46 (v := .int (Vw_pathLength VW)) rfl dX7_pathPlace_29 ?_
    cases hf
    exact e_ri X dX7_pathPlace_32
  have KL1_1 : ∀ (u : Int32) (ls : Array Slot), exL1 = Sum.inr (u) → lv_has ls 3 [(2, .int u)] → W p l e (rmz 0 0) s m [.ref ot, .int v1].toArray below meth c s.heap [] 0 0 (MQ below (Qr (some (.int q))) [.ref ot, .int v1].toArray s 0 0 (fun _ => False)) (F0 m 20 ls []) := by
    intro uL1 ls hex hl
    rw [hex] at hfL1
    have hf := hfL1
    replace hf := sl_r hf
    refine lv_iload_n hx hb dX7_pathPlace_20 rfl (lv_at hl 0 rfl) ?_
    cases hf
    exact e_ri X dX7_pathPlace_21
  have LL1 : ∀ (n : Nat) (stL1 : Int32) (ls : Array Slot), lv_has ls 3 [(0, .ref ot), (1, .int v1), (2, .int stL1)] → it (FX7_pathPlace_2 VW v1) n stL1 = some exL1 → W p l e (rmz 0 0) s m [.ref ot, .int v1].toArray below meth c s.heap [] 0 0 (MQ below (Qr (some (.int q))) [.ref ot, .int v1].toArray s 0 0 (fun _ => False)) (F0 m 2 ls []) := by
    intro n
    induction n with
    | zero =>
      intro stL1 ls hl hit
      exact (it_zero hit).elim
    | succ n ih =>
      intro stL1 ls hl hit
      obtain ⟨oL1, hf, hoL1⟩ := it_bd hit
      unfold FX7_pathPlace_2 at hf
      refine lv_iload_n hx hb dX7_pathPlace_2 rfl (lv_at hl 2 rfl) ?_
      refine lv_aload_n hx hb dX7_pathPlace_3 rfl (lv_at hl 0 rfl) ?_
      refine r_get X inw_X7 G 0 rfl rfl 11 (by decide) fl_X7_46 (v := .int (Vw_pathLength VW)) rfl dX7_pathPlace_4 ?_
      refine lv_icmp_ge (tgt := 28) hx hb dX7_pathPlace_7 (by decide) (fun c2 => ?_) (fun c2 => ?_)
      · replace hf := if_t hf c2
        cases hf
        exact KL1_0 () _ (it_out hoL1) (lv_sub hl [0] rfl)
      · replace hf := if_f hf c2
        refine lv_aload_n hx hb dX7_pathPlace_10 rfl (lv_at hl 0 rfl) ?_
        refine r_get X inw_X7 G 0 rfl rfl 10 (by decide) fl_X7_43 (v := .ref (aVW 2)) rfl dX7_pathPlace_11 ?_
        refine lv_iload_n hx hb dX7_pathPlace_14 rfl (lv_at hl 2 rfl) ?_
        obtain ⟨h3, hf⟩ := ix_some hf
        refine r_iald X G 3 rfl h3 dX7_pathPlace_15 ?_
        refine lv_iload_n hx hb dX7_pathPlace_16 rfl (lv_at hl 1 rfl) ?_
        refine lv_icmp_ne (tgt := 22) hx hb dX7_pathPlace_17 (by decide) (fun c4 => ?_) (fun c4 => ?_)
        · replace hf := if_f hf c4
          obtain ⟨x5, ex5, hf⟩ := nm_some hf
          refine lv_iinc (v := x5) (lv' := [(2, .int x5), (0, .ref ot), (1, .int v1)]) hx hb dX7_pathPlace_22 hl (k := 2) rfl (by subst ex5; rfl) (by decide) rfl (fun ls hl => ?_)
          refine lv_goto (tgt := 2) hx hb dX7_pathPlace_25 (by decide) ?_
          cases hf
          exact ih x5 _ (lv_sub hl [1, 2, 0] rfl) hoL1
        · replace hf := if_t hf c4
          cases hf
          exact KL1_1 stL1 _ (it_out hoL1) (lv_sub hl [2] rfl)
  exact LL1 nL1 (0 : Int32) _ (lv_sub hl [1, 2, 0] rfl) hitL1
theorem mk_X7_pathPlace : MV yX7_pathPlace cX7_pathPlace 3 (some .int) 1 := ⟨co_X7_pathPlace, in_X7, im_X7_pathPlace, se_X7_pathPlace, by decide +kernel, by decide +kernel⟩
noncomputable def FX7_whoCan_5 (VW : VwT) (v1 : Int32) (v2 : Int32) : (Int32 × Int32) → Option ((Int32 × Int32) ⊕ (Int32)) := fun stL1 =>
  if (Vw_workers VW) ≤ stL1.2 then (
    some (.inr stL1.1)
  ) else (
    if stL1.2 = v1 then (
      nm (stL1.2 + 1) fun x4 =>
      some (.inl (stL1.1, x4))
    ) else (
      ix stL1.2 8 <|
      if ((Vw_can VW (Int32.toNatClampNeg stL1.2)) &&& v2) = 0 then (
        nm (stL1.2 + 1) fun x7 =>
        some (.inl (stL1.1, x7))
      ) else (
        nm (stL1.1 ||| ((1 : Int32) <<< (stL1.2 &&& 31))) fun x8 =>
        nm (stL1.2 + 1) fun x9 =>
        some (.inl (x8, x9))
      )
    )
  )
noncomputable def FX7_whoCan (VW : VwT) (v1 : Int32) (v2 : Int32) : Option (Int32) :=
  (itr (FX7_whoCan_5 VW v1 v2) ((0 : Int32), (0 : Int32))).bind fun uL1 =>
  some uL1
set_option maxHeartbeats 4000000 in
set_option maxRecDepth 100000 in
theorem ctX7_whoCan {l : Launch} {D : va_G} {k : Nat → ClassId} {Z : ZT} (hZ : ZOK Z) (ot : Nat) (aVW : Nat → Nat) {VW : VwT} {v1 : Int32} {v2 : Int32} {q : Int32} (hf : FX7_whoCan VW v1 v2 = some q) :
    CR l D k Z yX7_whoCan cX7_whoCan 5 (some .int) 0 0 [.ref ot, .int v1, .int v2] (some (.int q)) (kVw k ot aVW (VW)) := by
  refine CR.start hZ (by decide) (Nat.le_of_ble_eq_true rfl) ?_
  intro p e s m below meth c ls X hl G
  have hx := X.1
  have hb := X.2.1
  have hl : lv_has ls 5 [(0, .ref ot), (1, .int v1), (2, .int v2)] := hl
  unfold FX7_whoCan at hf
  refine lv_iconst (v := 0) hx hb dX7_whoCan_0 (by decide) ?_
  refine lv_istore_n (lv' := [(3, .int (0 : Int32)), (0, .ref ot), (1, .int v1), (2, .int v2)]) hx hb dX7_whoCan_1 rfl hl (by decide) rfl (fun ls hl => ?_)
  refine lv_iconst (v := 0) hx hb dX7_whoCan_2 (by decide) ?_
  refine lv_istore (lv' := [(4, .int (0 : Int32)), (3, .int (0 : Int32)), (0, .ref ot), (1, .int v1), (2, .int v2)]) hx hb dX7_whoCan_3 hl (by decide) rfl (fun ls hl => ?_)
  obtain ⟨exL1, hitL1, hfL1⟩ := bd_some hf
  obtain ⟨nL1, hitL1⟩ := itr_ex hitL1
  have KL1_0 : ∀ (u : Int32) (ls : Array Slot), exL1 = u → lv_has ls 5 [(3, .int u)] → W p l e (rmz 0 0) s m [.ref ot, .int v1, .int v2].toArray below meth c s.heap [] 0 0 (MQ below (Qr (some (.int q))) [.ref ot, .int v1, .int v2].toArray s 0 0 (fun _ => False)) (F0 m 45 ls []) := by
    intro uL1 ls hex hl
    rw [hex] at hfL1
    have hf := hfL1
    refine lv_iload_n hx hb dX7_whoCan_45 rfl (lv_at hl 0 rfl) ?_
    cases hf
    exact e_ri X dX7_whoCan_46
  have LL1 : ∀ (n : Nat) (stL1 : Int32 × Int32) (ls : Array Slot), lv_has ls 5 [(0, .ref ot), (1, .int v1), (2, .int v2), (3, .int (stL1.1)), (4, .int (stL1.2))] → it (FX7_whoCan_5 VW v1 v2) n stL1 = some exL1 → W p l e (rmz 0 0) s m [.ref ot, .int v1, .int v2].toArray below meth c s.heap [] 0 0 (MQ below (Qr (some (.int q))) [.ref ot, .int v1, .int v2].toArray s 0 0 (fun _ => False)) (F0 m 5 ls []) := by
    intro n
    induction n with
    | zero =>
      intro stL1 ls hl hit
      exact (it_zero hit).elim
    | succ n ih =>
      intro stL1 ls hl hit
      obtain ⟨oL1, hf, hoL1⟩ := it_bd hit
      unfold FX7_whoCan_5 at hf
      refine lv_iload hx hb dX7_whoCan_5 (lv_at hl 4 rfl) ?_
      refine lv_aload_n hx hb dX7_whoCan_7 rfl (lv_at hl 0 rfl) ?_
      refine r_get X inw_X7 G 0 rfl rfl 0 (by decide) fl_X7_9 (v := .int (Vw_workers VW)) rfl dX7_whoCan_8 ?_
      refine lv_icmp_ge (tgt := 45) hx hb dX7_whoCan_11 (by decide) (fun c2 => ?_) (fun c2 => ?_)
      · replace hf := if_t hf c2
        cases hf
        exact KL1_0 stL1.1 _ (it_out hoL1) (lv_sub hl [3] rfl)
      · replace hf := if_f hf c2
        refine lv_iload hx hb dX7_whoCan_14 (lv_at hl 4 rfl) ?_
        refine lv_iload_n hx hb dX7_whoCan_16 rfl (lv_at hl 1 rfl) ?_
        refine lv_icmp_eq (tgt := 39) hx hb dX7_whoCan_17 (by decide) (fun c3 => ?_) (fun c3 => ?_)
        · replace hf := if_t hf c3
          obtain ⟨x4, ex4, hf⟩ := nm_some hf
          refine lv_iinc (v := x4) (lv' := [(4, .int x4), (0, .ref ot), (1, .int v1), (2, .int v2), (3, .int (stL1.1))]) hx hb dX7_whoCan_39 hl (k := 4) rfl (by subst ex4; rfl) (by decide) rfl (fun ls hl => ?_)
          refine lv_goto (tgt := 5) hx hb dX7_whoCan_42 (by decide) ?_
          cases hf
          exact ih (stL1.1, x4) _ (lv_sub hl [1, 2, 3, 4, 0] rfl) hoL1
        · replace hf := if_f hf c3
          refine lv_aload_n hx hb dX7_whoCan_20 rfl (lv_at hl 0 rfl) ?_
          refine r_get X inw_X7 G 0 rfl rfl 8 (by decide) fl_X7_36 (v := .ref (aVW 0)) rfl dX7_whoCan_21 ?_
          refine lv_iload hx hb dX7_whoCan_24 (lv_at hl 4 rfl) ?_
          obtain ⟨h5, hf⟩ := ix_some hf
          refine r_iald X G 1 rfl h5 dX7_whoCan_26 ?_
          refine lv_iload_n hx hb dX7_whoCan_27 rfl (lv_at hl 2 rfl) ?_
          refine lv_iand hx hb dX7_whoCan_28 ?_
          refine lv_if_eq (tgt := 39) hx hb dX7_whoCan_29 (by decide) (fun c6 => ?_) (fun c6 => ?_)
          · replace hf := if_t hf c6
            obtain ⟨x7, ex7, hf⟩ := nm_some hf
            refine lv_iinc (v := x7) (lv' := [(4, .int x7), (0, .ref ot), (1, .int v1), (2, .int v2), (3, .int (stL1.1))]) hx hb dX7_whoCan_39 hl (k := 4) rfl (by subst ex7; rfl) (by decide) rfl (fun ls hl => ?_)
            refine lv_goto (tgt := 5) hx hb dX7_whoCan_42 (by decide) ?_
            cases hf
            exact ih (stL1.1, x7) _ (lv_sub hl [1, 2, 3, 4, 0] rfl) hoL1
          · replace hf := if_f hf c6
            refine lv_iload_n hx hb dX7_whoCan_32 rfl (lv_at hl 3 rfl) ?_
            refine lv_iconst (v := 1) hx hb dX7_whoCan_33 (by decide) ?_
            refine lv_iload hx hb dX7_whoCan_34 (lv_at hl 4 rfl) ?_
            refine lv_ishl hx hb dX7_whoCan_36 ?_
            refine lv_ior hx hb dX7_whoCan_37 ?_
            obtain ⟨x8, ex8, hf⟩ := nm_some hf
            refine r_top (congrArg Value.int ex8) ?_
            refine lv_istore_n (lv' := [(3, .int x8), (0, .ref ot), (1, .int v1), (2, .int v2), (4, .int (stL1.2))]) hx hb dX7_whoCan_38 rfl hl (by decide) rfl (fun ls hl => ?_)
            obtain ⟨x9, ex9, hf⟩ := nm_some hf
            refine lv_iinc (v := x9) (lv' := [(4, .int x9), (3, .int x8), (0, .ref ot), (1, .int v1), (2, .int v2)]) hx hb dX7_whoCan_39 hl (k := 4) rfl (by subst ex9; rfl) (by decide) rfl (fun ls hl => ?_)
            refine lv_goto (tgt := 5) hx hb dX7_whoCan_42 (by decide) ?_
            cases hf
            exact ih (x8, x9) _ (lv_sub hl [2, 3, 4, 1, 0] rfl) hoL1
  exact LL1 nL1 ((0 : Int32), (0 : Int32)) _ (lv_sub hl [2, 3, 4, 1, 0] rfl) hitL1
theorem mk_X7_whoCan : MV yX7_whoCan cX7_whoCan 5 (some .int) 2 := ⟨co_X7_whoCan, in_X7, im_X7_whoCan, se_X7_whoCan, by decide +kernel, by decide +kernel⟩
noncomputable def FX7_waitsOf (VW : VwT) (PL : PlT) (SC : ScT) (v3 : Int32) : Option (Int32) :=
  ix v3 8 <|
  (FX1_numberAt PL v3 (Sc_place SC (Int32.toNatClampNeg v3))).bind fun r2 =>
  ix v3 8 <|
  (FX1_kindAt PL v3 (Sc_place SC (Int32.toNatClampNeg v3))).bind fun r4 =>
  if r4 = (1 : Int32) then (
    (FX9_at 6 (Sc_holders SC) r2).bind fun r6 =>
    some ((1 : Int32) <<< (r6 &&& 31))
  ) else (
  if r4 = (3 : Int32) then (
    (FX1_bitOf (4 : Int32) r2).bind fun r8 =>
    (FX7_whoCan VW v3 r8).bind fun r9 =>
    some r9
  ) else (
  if r4 = (4 : Int32) then (
    (FX1_bitOf (3 : Int32) r2).bind fun r11 =>
    (FX7_whoCan VW v3 r11).bind fun r12 =>
    some r12
  ) else (
  if r4 = (6 : Int32) then (
    (FX1_bitOf (5 : Int32) v3).bind fun r14 =>
    (FX7_whoCan VW v3 r14).bind fun r15 =>
    some (r15 &&& ((1 : Int32) <<< (r2 &&& 31)))
  ) else (
    some (0 : Int32)
  ))))
set_option maxHeartbeats 4000000 in
set_option maxRecDepth 100000 in
theorem ctX7_waitsOf {l : Launch} {D : va_G} {k : Nat → ClassId} {Z : ZT} (hZ : ZOK Z) (ot : Nat) (o1 : Nat) (o2 : Nat) (aVW : Nat → Nat) (aPL : Nat → Nat) (aSC : Nat → Nat) {VW : VwT} {PL : PlT} {SC : ScT} {v3 : Int32} {q : Int32} (hf : FX7_waitsOf VW PL SC v3 = some q) :
    CR l D k Z yX7_waitsOf cX7_waitsOf 5 (some .int) 2 44 [.ref ot, .ref o1, .ref o2, .int v3] (some (.int q)) (kVw k ot aVW (VW) ++ (kPl k o1 aPL (PL) ++ (kSc k o2 aSC (SC)))) := by
  refine CR.start hZ (by decide) (Nat.le_of_ble_eq_true rfl) ?_
  intro p e s m below meth c ls X hl G
  have hx := X.1
  have hb := X.2.1
  have hl : lv_has ls 5 [(0, .ref ot), (1, .ref o1), (2, .ref o2), (3, .int v3)] := hl
  unfold FX7_waitsOf at hf
  refine lv_aload_n hx hb dX7_waitsOf_0 rfl (lv_at hl 1 rfl) ?_
  refine lv_iload_n hx hb dX7_waitsOf_1 rfl (lv_at hl 3 rfl) ?_
  refine lv_aload_n hx hb dX7_waitsOf_2 rfl (lv_at hl 2 rfl) ?_
  refine r_get X inw_X3 G 10 rfl rfl 3 (by decide) fl_X7_55 (v := .ref (aSC 0)) rfl dX7_waitsOf_3 ?_
  refine lv_iload_n hx hb dX7_waitsOf_6 rfl (lv_at hl 3 rfl) ?_
  obtain ⟨h1, hf⟩ := ix_some hf
  refine r_iald X G 11 rfl h1 dX7_waitsOf_7 ?_
  obtain ⟨r2, hcr2, hf⟩ := bd_some hf
  refine p_R (st1 := [.int r2]) (run_V (rest := []) X (ctX1_numberAt hZ o1 aPL hcr2) mk_X1_numberAt ml_X7_79 ⟨(Nat.le_of_ble_eq_true rfl), (Nat.le_of_ble_eq_true rfl)⟩ G [4, 5, 6, 7, 8, 9] rfl rfl 4 rfl rfl rfl hl.1 rfl (Nat.le_of_ble_eq_true rfl) dX7_waitsOf_8 ⟨Nat.zero_le _, Nat.zero_le _⟩) rfl ?_
  refine lv_istore (lv' := [(4, .int r2), (0, .ref ot), (1, .ref o1), (2, .ref o2), (3, .int v3)]) hx hb dX7_waitsOf_11 hl (by decide) rfl (fun ls hl => ?_)
  refine lv_aload_n hx hb dX7_waitsOf_13 rfl (lv_at hl 2 rfl) ?_
  refine lv_iload_n hx hb dX7_waitsOf_14 rfl (lv_at hl 4 rfl) ?_
  refine lv_aload_n hx hb dX7_waitsOf_15 rfl (lv_at hl 3 rfl) ?_
  refine r_get X inw_X3 G 10 rfl rfl 3 (by decide) fl_X7_55 (v := .ref (aSC 0)) rfl dX7_waitsOf_16 ?_
  refine lv_iload_n hx hb dX7_waitsOf_19 rfl (lv_at hl 4 rfl) ?_
  obtain ⟨h3, hf⟩ := ix_some hf
  refine r_iald X G 11 rfl h3 dX7_waitsOf_20 ?_
  obtain ⟨r4, hcr4, hf⟩ := bd_some hf
  refine p_R (st1 := [.int r4]) (run_V (rest := []) X (ctX1_kindAt hZ o1 aPL hcr4) mk_X1_kindAt ml_X7_82 ⟨(Nat.le_of_ble_eq_true rfl), (Nat.le_of_ble_eq_true rfl)⟩ G [4, 5, 6, 7, 8, 9] rfl rfl 4 rfl rfl rfl hl.1 rfl (Nat.le_of_ble_eq_true rfl) dX7_waitsOf_21 ⟨Nat.zero_le _, Nat.zero_le _⟩) rfl ?_
  by_cases c5 : r4 = (1 : Int32)
  · replace hf := if_t hf c5
    refine r_tsw X (tgt := 64) dX7_waitsOf_24 (by rw [c5]; decide +kernel) (by rw [c5]; decide +kernel) ?_
    refine lv_iconst (v := 1) hx hb dX7_waitsOf_64 (by decide) ?_
    refine lv_aload_n hx hb dX7_waitsOf_65 rfl (lv_at hl 3 rfl) ?_
    refine r_get X inw_X3 G 10 rfl rfl 8 (by decide) fl_X7_85 (v := .ref (aSC 5)) rfl dX7_waitsOf_66 ?_
    refine lv_iload hx hb dX7_waitsOf_69 (lv_at hl 0 rfl) ?_
    obtain ⟨r6, hcr6, hf⟩ := bd_some hf
    refine p_R (st1 := [.int r6, .int (1 : Int32)]) (run_N (rest := [.int (1 : Int32)]) X (ctX9_at hZ (aSC 5) hcr6) mk_X9_at mn_X7_88 ⟨(Nat.le_of_ble_eq_true rfl), (Nat.le_of_ble_eq_true rfl)⟩ G [16] rfl rfl rfl hl.1 rfl (Nat.le_of_ble_eq_true rfl) dX7_waitsOf_71 ⟨Nat.zero_le _, Nat.zero_le _⟩) rfl ?_
    refine lv_ishl hx hb dX7_waitsOf_74 ?_
    cases hf
    exact e_ri X dX7_waitsOf_75
  replace hf := if_f hf c5
  by_cases c7 : r4 = (3 : Int32)
  · replace hf := if_t hf c7
    refine r_tsw X (tgt := 76) dX7_waitsOf_24 (by rw [c7]; decide +kernel) (by rw [c7]; decide +kernel) ?_
    refine lv_aload_n hx hb dX7_waitsOf_76 rfl (lv_at hl 1 rfl) ?_
    refine lv_iload_n hx hb dX7_waitsOf_77 rfl (lv_at hl 4 rfl) ?_
    refine lv_iconst (v := 4) hx hb dX7_waitsOf_78 (by decide) ?_
    refine lv_iload hx hb dX7_waitsOf_79 (lv_at hl 0 rfl) ?_
    obtain ⟨r8, hcr8, hf⟩ := bd_some hf
    refine p_R (st1 := [.int r8, .int v3, .ref ot]) (run_S (rest := [.int v3, .ref ot]) X (ctX1_bitOf hZ hcr8) mk_X1_bitOf ml_X7_92 ⟨(Nat.le_of_ble_eq_true rfl), (Nat.le_of_ble_eq_true rfl)⟩ G [] rfl rfl rfl hl.1 rfl (Nat.le_of_ble_eq_true rfl) dX7_waitsOf_81 ⟨Nat.zero_le _, Nat.zero_le _⟩) rfl ?_
    obtain ⟨r9, hcr9, hf⟩ := bd_some hf
    refine p_R (st1 := [.int r9]) (run_V (rest := []) X (ctX7_whoCan hZ ot aVW hcr9) mk_X7_whoCan ml_X7_95 ⟨(Nat.le_of_ble_eq_true rfl), (Nat.le_of_ble_eq_true rfl)⟩ G [0, 1, 2, 3] rfl rfl 0 rfl rfl rfl hl.1 rfl (Nat.le_of_ble_eq_true rfl) dX7_waitsOf_84 ⟨Nat.zero_le _, Nat.zero_le _⟩) rfl ?_
    cases hf
    exact e_ri X dX7_waitsOf_87
  replace hf := if_f hf c7
  by_cases c10 : r4 = (4 : Int32)
  · replace hf := if_t hf c10
    refine r_tsw X (tgt := 88) dX7_waitsOf_24 (by rw [c10]; decide +kernel) (by rw [c10]; decide +kernel) ?_
    refine lv_aload_n hx hb dX7_waitsOf_88 rfl (lv_at hl 1 rfl) ?_
    refine lv_iload_n hx hb dX7_waitsOf_89 rfl (lv_at hl 4 rfl) ?_
    refine lv_iconst (v := 3) hx hb dX7_waitsOf_90 (by decide) ?_
    refine lv_iload hx hb dX7_waitsOf_91 (lv_at hl 0 rfl) ?_
    obtain ⟨r11, hcr11, hf⟩ := bd_some hf
    refine p_R (st1 := [.int r11, .int v3, .ref ot]) (run_S (rest := [.int v3, .ref ot]) X (ctX1_bitOf hZ hcr11) mk_X1_bitOf ml_X7_92 ⟨(Nat.le_of_ble_eq_true rfl), (Nat.le_of_ble_eq_true rfl)⟩ G [] rfl rfl rfl hl.1 rfl (Nat.le_of_ble_eq_true rfl) dX7_waitsOf_93 ⟨Nat.zero_le _, Nat.zero_le _⟩) rfl ?_
    obtain ⟨r12, hcr12, hf⟩ := bd_some hf
    refine p_R (st1 := [.int r12]) (run_V (rest := []) X (ctX7_whoCan hZ ot aVW hcr12) mk_X7_whoCan ml_X7_95 ⟨(Nat.le_of_ble_eq_true rfl), (Nat.le_of_ble_eq_true rfl)⟩ G [0, 1, 2, 3] rfl rfl 0 rfl rfl rfl hl.1 rfl (Nat.le_of_ble_eq_true rfl) dX7_waitsOf_96 ⟨Nat.zero_le _, Nat.zero_le _⟩) rfl ?_
    cases hf
    exact e_ri X dX7_waitsOf_99
  replace hf := if_f hf c10
  by_cases c13 : r4 = (6 : Int32)
  · replace hf := if_t hf c13
    refine r_tsw X (tgt := 100) dX7_waitsOf_24 (by rw [c13]; decide +kernel) (by rw [c13]; decide +kernel) ?_
    refine lv_aload_n hx hb dX7_waitsOf_100 rfl (lv_at hl 1 rfl) ?_
    refine lv_iload_n hx hb dX7_waitsOf_101 rfl (lv_at hl 4 rfl) ?_
    refine lv_iconst (v := 5) hx hb dX7_waitsOf_102 (by decide) ?_
    refine lv_iload_n hx hb dX7_waitsOf_103 rfl (lv_at hl 4 rfl) ?_
    obtain ⟨r14, hcr14, hf⟩ := bd_some hf
    refine p_R (st1 := [.int r14, .int v3, .ref ot]) (run_S (rest := [.int v3, .ref ot]) X (ctX1_bitOf hZ hcr14) mk_X1_bitOf ml_X7_92 ⟨(Nat.le_of_ble_eq_true rfl), (Nat.le_of_ble_eq_true rfl)⟩ G [] rfl rfl rfl hl.1 rfl (Nat.le_of_ble_eq_true rfl) dX7_waitsOf_104 ⟨Nat.zero_le _, Nat.zero_le _⟩) rfl ?_
    obtain ⟨r15, hcr15, hf⟩ := bd_some hf
    refine p_R (st1 := [.int r15]) (run_V (rest := []) X (ctX7_whoCan hZ ot aVW hcr15) mk_X7_whoCan ml_X7_95 ⟨(Nat.le_of_ble_eq_true rfl), (Nat.le_of_ble_eq_true rfl)⟩ G [0, 1, 2, 3] rfl rfl 0 rfl rfl rfl hl.1 rfl (Nat.le_of_ble_eq_true rfl) dX7_waitsOf_107 ⟨Nat.zero_le _, Nat.zero_le _⟩) rfl ?_
    refine lv_iconst (v := 1) hx hb dX7_waitsOf_110 (by decide) ?_
    refine lv_iload hx hb dX7_waitsOf_111 (lv_at hl 0 rfl) ?_
    refine lv_ishl hx hb dX7_waitsOf_113 ?_
    refine lv_iand hx hb dX7_waitsOf_114 ?_
    cases hf
    exact e_ri X dX7_waitsOf_115
  replace hf := if_f hf c13
  have hd := tsw_d (x := r4) (lo' := 1) (hi' := 6) (dflt := 92) (offs := #[40, 92, 52, 64, 92, 76]) [(1 : Int32), (3 : Int32), (4 : Int32), (6 : Int32)] (by
      intro k hk
      simp only [List.mem_cons, List.not_mem_nil, or_false] at hk
      rcases hk with rfl | rfl | rfl | rfl
      · exact c5
      · exact c7
      · exact c10
      · exact c13
      ) 5 (by decide) (by decide +kernel)
  refine r_tsw X (tgt := 116) dX7_waitsOf_24 (by rw [hd.1]; rfl) hd.2 ?_
  refine lv_iconst (v := 0) hx hb dX7_waitsOf_116 (by decide) ?_
  cases hf
  exact e_ri X dX7_waitsOf_117
theorem mk_X7_waitsOf : MV yX7_waitsOf cX7_waitsOf 5 (some .int) 3 := ⟨co_X7_waitsOf, in_X7, im_X7_waitsOf, se_X7_waitsOf, by decide +kernel, by decide +kernel⟩
noncomputable def FX7_spreadFreedom_20  : (Int32 × Int32 × VwT) → Option ((Int32 × Int32 × VwT) ⊕ (Int32 × VwT)) := fun stL4 =>
  if (Vw_workers stL4.2.2) ≤ stL4.2.1 then (
    some (.inr (stL4.1, stL4.2.2))
  ) else (
    (FX9_has (Vw_freeToGo stL4.2.2) stL4.2.1).bind fun r6 =>
    if (bI r6) = 0 then (
      ix stL4.2.1 8 <|
      if ((Vw_waitsFor stL4.2.2 (Int32.toNatClampNeg stL4.2.1)) &&& (Vw_freeToGo stL4.2.2)) = 0 then (
        nm (stL4.2.1 + 1) fun x11 =>
        some (.inl (stL4.1, x11, stL4.2.2))
      ) else (
        nm (sVw_freeToGo stL4.2.2 ((Vw_freeToGo stL4.2.2) ||| ((1 : Int32) <<< (stL4.2.1 &&& 31)))) fun VW12 =>
        nm (stL4.2.1 + 1) fun x13 =>
        some (.inl ((1 : Int32), x13, VW12))
      )
    ) else (
      nm (stL4.2.1 + 1) fun x8 =>
      some (.inl (stL4.1, x8, stL4.2.2))
    )
  )
noncomputable def FX7_spreadFreedom_4  : (Int32 × Int32 × VwT) → Option ((Int32 × Int32 × VwT) ⊕ (VwT)) := fun stL1 =>
  if (Vw_workers stL1.2.2) ≤ stL1.2.1 then (
    some (.inr stL1.2.2)
  ) else (
    if stL1.1 = 0 then (
      some (.inr stL1.2.2)
    ) else (
      (itr FX7_spreadFreedom_20 ((0 : Int32), (0 : Int32), stL1.2.2)).bind fun uL4 =>
      nm (stL1.2.1 + 1) fun x14 =>
      some (.inl (uL4.1, x14, uL4.2))
    )
  )
noncomputable def FX7_spreadFreedom (VW : VwT) : Option (VwT) :=
  (itr FX7_spreadFreedom_4 ((1 : Int32), (0 : Int32), VW)).bind fun uL1 =>
  some uL1
set_option maxHeartbeats 4000000 in
set_option maxRecDepth 100000 in
theorem ctX7_spreadFreedom {l : Launch} {D : va_G} {k : Nat → ClassId} {Z : ZT} (hZ : ZOK Z) (ot : Nat) (aVW : Nat → Nat) {VW : VwT} {q : VwT} (hf : FX7_spreadFreedom VW = some q) :
    CM l D k Z yX7_spreadFreedom cX7_spreadFreedom 4 none 1 21 [.ref ot] none (kVw k ot aVW (VW)) (kVw k ot aVW (q)) := by
  refine CM.start hZ (by decide) (Nat.le_of_ble_eq_true rfl) ?_
  intro p e s m below meth c ls X hl G
  have hx := X.1
  have hb := X.2.1
  have hl : lv_has ls 4 [(0, .ref ot)] := hl
  unfold FX7_spreadFreedom at hf
  refine lv_iconst (v := 1) hx hb dX7_spreadFreedom_0 (by decide) ?_
  refine lv_istore_n (lv' := [(1, .int (1 : Int32)), (0, .ref ot)]) hx hb dX7_spreadFreedom_1 rfl hl (by decide) rfl (fun ls hl => ?_)
  refine lv_iconst (v := 0) hx hb dX7_spreadFreedom_2 (by decide) ?_
  refine lv_istore_n (lv' := [(2, .int (0 : Int32)), (1, .int (1 : Int32)), (0, .ref ot)]) hx hb dX7_spreadFreedom_3 rfl hl (by decide) rfl (fun ls hl => ?_)
  obtain ⟨exL1, hitL1, hfL1⟩ := bd_some hf
  obtain ⟨nL1, hitL1⟩ := itr_ex hitL1
  have KL1_0 : ∀ (u : VwT) (H : Heap) (locs : List Loc) (ls : Array Slot), exL1 = u → Wo D (wA (kVw k ot aVW (VW))) s.heap (kVw k ot aVW (u)) H locs → lv_has ls 4 [] → W p l e (rmz 1 21) s m [.ref ot].toArray below meth c H locs 0 0 (MQ below (Qm D none (kVw k ot aVW (VW)) (kVw k ot aVW (q))) [.ref ot].toArray s 0 0 (wA (kVw k ot aVW (VW)))) (F0 m 79 ls []) := by
    intro uL1 H locs ls hex G hl
    rw [hex] at hfL1
    have hf := hfL1
    cases hf
    exact e_mv X G dX7_spreadFreedom_79
  have LL1 : ∀ (n : Nat) (stL1 : Int32 × Int32 × VwT) (H : Heap) (locs : List Loc) (ls : Array Slot), Wo D (wA (kVw k ot aVW (VW))) s.heap (kVw k ot aVW (stL1.2.2)) H locs → lv_has ls 4 [(0, .ref ot), (1, .int (stL1.1)), (2, .int (stL1.2.1))] → it FX7_spreadFreedom_4 n stL1 = some exL1 → W p l e (rmz 1 21) s m [.ref ot].toArray below meth c H locs 0 0 (MQ below (Qm D none (kVw k ot aVW (VW)) (kVw k ot aVW (q))) [.ref ot].toArray s 0 0 (wA (kVw k ot aVW (VW)))) (F0 m 4 ls []) := by
    intro n
    induction n with
    | zero =>
      intro stL1 H locs ls G hl hit
      exact (it_zero hit).elim
    | succ n ih =>
      intro stL1 H locs ls G hl hit
      obtain ⟨oL1, hf, hoL1⟩ := it_bd hit
      unfold FX7_spreadFreedom_4 at hf
      refine lv_iload_n hx hb dX7_spreadFreedom_4 rfl (lv_at hl 2 rfl) ?_
      refine lv_aload_n hx hb dX7_spreadFreedom_5 rfl (lv_at hl 0 rfl) ?_
      refine r_get X inw_X7 G 0 rfl rfl 0 (by decide) fl_X7_9 (v := .int (Vw_workers stL1.2.2)) rfl dX7_spreadFreedom_6 ?_
      refine lv_icmp_ge (tgt := 79) hx hb dX7_spreadFreedom_9 (by decide) (fun c2 => ?_) (fun c2 => ?_)
      · replace hf := if_t hf c2
        cases hf
        exact KL1_0 stL1.2.2 _ _ _ (it_out hoL1) G (lv_sub hl [] rfl)
      · replace hf := if_f hf c2
        refine lv_iload_n hx hb dX7_spreadFreedom_12 rfl (lv_at hl 1 rfl) ?_
        refine lv_if_eq (tgt := 79) hx hb dX7_spreadFreedom_13 (by decide) (fun c3 => ?_) (fun c3 => ?_)
        · replace hf := if_t hf c3
          cases hf
          exact KL1_0 stL1.2.2 _ _ _ (it_out hoL1) G (lv_sub hl [] rfl)
        · replace hf := if_f hf c3
          refine lv_iconst (v := 0) hx hb dX7_spreadFreedom_16 (by decide) ?_
          refine lv_istore_n (lv' := [(1, .int (0 : Int32)), (0, .ref ot), (2, .int (stL1.2.1))]) hx hb dX7_spreadFreedom_17 rfl hl (by decide) rfl (fun ls hl => ?_)
          refine lv_iconst (v := 0) hx hb dX7_spreadFreedom_18 (by decide) ?_
          refine lv_istore_n (lv' := [(3, .int (0 : Int32)), (1, .int (0 : Int32)), (0, .ref ot), (2, .int (stL1.2.1))]) hx hb dX7_spreadFreedom_19 rfl hl (by decide) rfl (fun ls hl => ?_)
          obtain ⟨exL4, hitL4, hfL4⟩ := bd_some hf
          obtain ⟨nL4, hitL4⟩ := itr_ex hitL4
          have KL4_0 : ∀ (u : Int32 × VwT) (H : Heap) (locs : List Loc) (ls : Array Slot), exL4 = u → Wo D (wA (kVw k ot aVW (VW))) s.heap (kVw k ot aVW (u.2)) H locs → lv_has ls 4 [(0, .ref ot), (1, .int (u.1)), (2, .int (stL1.2.1))] → W p l e (rmz 1 21) s m [.ref ot].toArray below meth c H locs 0 0 (MQ below (Qm D none (kVw k ot aVW (VW)) (kVw k ot aVW (q))) [.ref ot].toArray s 0 0 (wA (kVw k ot aVW (VW)))) (F0 m 73 ls []) := by
            intro uL4 H locs ls hex G hl
            rw [hex] at hfL4
            have hf := hfL4
            obtain ⟨x14, ex14, hf⟩ := nm_some hf
            refine lv_iinc (v := x14) (lv' := [(2, .int x14), (0, .ref ot), (1, .int (uL4.1))]) hx hb dX7_spreadFreedom_73 hl (k := 2) rfl (by subst ex14; rfl) (by decide) rfl (fun ls hl => ?_)
            refine lv_goto (tgt := 4) hx hb dX7_spreadFreedom_76 (by decide) ?_
            cases hf
            exact ih (uL4.1, x14, uL4.2) _ _ _ G (lv_sub hl [1, 2, 0] rfl) hoL1
          have LL4 : ∀ (n : Nat) (stL4 : Int32 × Int32 × VwT) (H : Heap) (locs : List Loc) (ls : Array Slot), Wo D (wA (kVw k ot aVW (VW))) s.heap (kVw k ot aVW (stL4.2.2)) H locs → lv_has ls 4 [(0, .ref ot), (1, .int (stL4.1)), (2, .int (stL1.2.1)), (3, .int (stL4.2.1))] → it FX7_spreadFreedom_20 n stL4 = some exL4 → W p l e (rmz 1 21) s m [.ref ot].toArray below meth c H locs 0 0 (MQ below (Qm D none (kVw k ot aVW (VW)) (kVw k ot aVW (q))) [.ref ot].toArray s 0 0 (wA (kVw k ot aVW (VW)))) (F0 m 20 ls []) := by
            intro n
            induction n with
            | zero =>
              intro stL4 H locs ls G hl hit
              exact (it_zero hit).elim
            | succ n ih =>
              intro stL4 H locs ls G hl hit
              obtain ⟨oL4, hf, hoL4⟩ := it_bd hit
              unfold FX7_spreadFreedom_20 at hf
              refine lv_iload_n hx hb dX7_spreadFreedom_20 rfl (lv_at hl 3 rfl) ?_
              refine lv_aload_n hx hb dX7_spreadFreedom_21 rfl (lv_at hl 0 rfl) ?_
              refine r_get X inw_X7 G 0 rfl rfl 0 (by decide) fl_X7_9 (v := .int (Vw_workers stL4.2.2)) rfl dX7_spreadFreedom_22 ?_
              refine lv_icmp_ge (tgt := 73) hx hb dX7_spreadFreedom_25 (by decide) (fun c5 => ?_) (fun c5 => ?_)
              · replace hf := if_t hf c5
                cases hf
                exact KL4_0 (stL4.1, stL4.2.2) _ _ _ (it_out hoL4) G (lv_sub hl [0, 1, 2] rfl)
              · replace hf := if_f hf c5
                refine lv_aload_n hx hb dX7_spreadFreedom_28 rfl (lv_at hl 0 rfl) ?_
                refine r_get X inw_X7 G 0 rfl rfl 3 (by decide) fl_X7_21 (v := .int (Vw_freeToGo stL4.2.2)) rfl dX7_spreadFreedom_29 ?_
                refine lv_iload_n hx hb dX7_spreadFreedom_32 rfl (lv_at hl 3 rfl) ?_
                obtain ⟨r6, hcr6, hf⟩ := bd_some hf
                refine p_R (st1 := [.int (bI r6)]) (run_N (rest := []) X (ctX9_has hZ hcr6) mk_X9_has mn_X7_98 ⟨(Nat.le_of_ble_eq_true rfl), (Nat.le_of_ble_eq_true rfl)⟩ G [] rfl rfl rfl hl.1 rfl (Nat.le_of_ble_eq_true rfl) dX7_spreadFreedom_33 ⟨Nat.zero_le _, Nat.zero_le _⟩) rfl ?_
                refine lv_if_ne (tgt := 67) hx hb dX7_spreadFreedom_36 (by decide) (fun c7 => ?_) (fun c7 => ?_)
                · replace hf := if_f hf c7
                  obtain ⟨x8, ex8, hf⟩ := nm_some hf
                  refine lv_iinc (v := x8) (lv' := [(3, .int x8), (0, .ref ot), (1, .int (stL4.1)), (2, .int (stL1.2.1))]) hx hb dX7_spreadFreedom_67 hl (k := 3) rfl (by subst ex8; rfl) (by decide) rfl (fun ls hl => ?_)
                  refine lv_goto (tgt := 20) hx hb dX7_spreadFreedom_70 (by decide) ?_
                  cases hf
                  exact ih (stL4.1, x8, stL4.2.2) _ _ _ G (lv_sub hl [1, 2, 3, 0] rfl) hoL4
                · replace hf := if_t hf c7
                  refine lv_aload_n hx hb dX7_spreadFreedom_39 rfl (lv_at hl 0 rfl) ?_
                  refine r_get X inw_X7 G 0 rfl rfl 9 (by decide) fl_X7_40 (v := .ref (aVW 1)) rfl dX7_spreadFreedom_40 ?_
                  refine lv_iload_n hx hb dX7_spreadFreedom_43 rfl (lv_at hl 3 rfl) ?_
                  obtain ⟨h9, hf⟩ := ix_some hf
                  refine r_iald X G 2 rfl h9 dX7_spreadFreedom_44 ?_
                  refine lv_aload_n hx hb dX7_spreadFreedom_45 rfl (lv_at hl 0 rfl) ?_
                  refine r_get X inw_X7 G 0 rfl rfl 3 (by decide) fl_X7_21 (v := .int (Vw_freeToGo stL4.2.2)) rfl dX7_spreadFreedom_46 ?_
                  refine lv_iand hx hb dX7_spreadFreedom_49 ?_
                  refine lv_if_eq (tgt := 67) hx hb dX7_spreadFreedom_50 (by decide) (fun c10 => ?_) (fun c10 => ?_)
                  · replace hf := if_t hf c10
                    obtain ⟨x11, ex11, hf⟩ := nm_some hf
                    refine lv_iinc (v := x11) (lv' := [(3, .int x11), (0, .ref ot), (1, .int (stL4.1)), (2, .int (stL1.2.1))]) hx hb dX7_spreadFreedom_67 hl (k := 3) rfl (by subst ex11; rfl) (by decide) rfl (fun ls hl => ?_)
                    refine lv_goto (tgt := 20) hx hb dX7_spreadFreedom_70 (by decide) ?_
                    cases hf
                    exact ih (stL4.1, x11, stL4.2.2) _ _ _ G (lv_sub hl [1, 2, 3, 0] rfl) hoL4
                  · replace hf := if_f hf c10
                    refine lv_aload_n hx hb dX7_spreadFreedom_53 rfl (lv_at hl 0 rfl) ?_
                    refine lv_dup hx hb dX7_spreadFreedom_54 rfl ?_
                    refine r_get X inw_X7 G 0 rfl rfl 3 (by decide) fl_X7_21 (v := .int (Vw_freeToGo stL4.2.2)) rfl dX7_spreadFreedom_55 ?_
                    refine lv_iconst (v := 1) hx hb dX7_spreadFreedom_58 (by decide) ?_
                    refine lv_iload_n hx hb dX7_spreadFreedom_59 rfl (lv_at hl 3 rfl) ?_
                    refine lv_ishl hx hb dX7_spreadFreedom_60 ?_
                    refine lv_ior hx hb dX7_spreadFreedom_61 ?_
                    obtain ⟨VW12, eVW12, hf⟩ := nm_some hf
                    refine r_put X inw_X7 tyX7 tyX7_ok nmX7 G 0 rfl rfl 3 (by decide) fl_X7_21 rfl rfl rfl (Nat.le_of_ble_eq_true rfl) (ws' := kVw k ot aVW (VW12)) (by subst eVW12; rfl) dX7_spreadFreedom_62 (fun H locs G => ?_)
                    refine lv_iconst (v := 1) hx hb dX7_spreadFreedom_65 (by decide) ?_
                    refine lv_istore_n (lv' := [(1, .int (1 : Int32)), (0, .ref ot), (2, .int (stL1.2.1)), (3, .int (stL4.2.1))]) hx hb dX7_spreadFreedom_66 rfl hl (by decide) rfl (fun ls hl => ?_)
                    obtain ⟨x13, ex13, hf⟩ := nm_some hf
                    refine lv_iinc (v := x13) (lv' := [(3, .int x13), (1, .int (1 : Int32)), (0, .ref ot), (2, .int (stL1.2.1))]) hx hb dX7_spreadFreedom_67 hl (k := 3) rfl (by subst ex13; rfl) (by decide) rfl (fun ls hl => ?_)
                    refine lv_goto (tgt := 20) hx hb dX7_spreadFreedom_70 (by decide) ?_
                    cases hf
                    exact ih ((1 : Int32), x13, VW12) _ _ _ G (lv_sub hl [2, 1, 3, 0] rfl) hoL4
          exact LL4 nL4 ((0 : Int32), (0 : Int32), stL1.2.2) _ _ _ G (lv_sub hl [2, 1, 3, 0] rfl) hitL4
  exact LL1 nL1 ((1 : Int32), (0 : Int32), VW) _ _ _ G (lv_sub hl [2, 1, 0] rfl) hitL1
theorem mk_X7_spreadFreedom : MV yX7_spreadFreedom cX7_spreadFreedom 4 none 0 := ⟨co_X7_spreadFreedom, in_X7, im_X7_spreadFreedom, se_X7_spreadFreedom, by decide +kernel, by decide +kernel⟩
noncomputable def FX7_findLate_j62 (SC : ScT) (stL2 : Int32 × Int32 × VwT) (vJ5 : Int32) (vJ8 : Int32) : Option ((Int32 × Int32 × VwT) ⊕ (Int32 × VwT)) :=
  if vJ8 = 0 then (
    nm (stL2.2.1 + 1) fun x10 =>
    some (.inl (vJ5, x10, stL2.2.2))
  ) else (
    (FX3_quiet SC stL2.2.1).bind fun r11 =>
    if r11 < ((Sc_window SC) + (Sc_grace SC)) then (
      nm (stL2.2.1 + 1) fun x13 =>
      some (.inl (vJ5, x13, stL2.2.2))
    ) else (
      nm (sVw_slow stL2.2.2 ((Vw_slow stL2.2.2) ||| ((1 : Int32) <<< (stL2.2.1 &&& 31)))) fun VW14 =>
      nm (stL2.2.1 + 1) fun x15 =>
      some (.inl (vJ5, x15, VW14))
    )
  )
noncomputable def FX7_findLate_j39 (PL : PlT) (SC : ScT) (stL2 : Int32 × Int32 × VwT) (vJ5 : Int32) : Option ((Int32 × Int32 × VwT) ⊕ (Int32 × VwT)) :=
  ix stL2.2.1 8 <|
  (FX1_kindAt PL stL2.2.1 (Sc_place SC (Int32.toNatClampNeg stL2.2.1))).bind fun r7 =>
  if r7 = (7 : Int32) then (
    FX7_findLate_j62 SC stL2 vJ5 (1 : Int32)
  ) else (
    FX7_findLate_j62 SC stL2 vJ5 (0 : Int32)
  )
noncomputable def FX7_findLate_10 (PL : PlT) (SC : ScT) : (Int32 × Int32 × VwT) → Option ((Int32 × Int32 × VwT) ⊕ (Int32 × VwT)) := fun stL2 =>
  if (Vw_workers stL2.2.2) ≤ stL2.2.1 then (
    some (.inr (stL2.1, stL2.2.2))
  ) else (
    (FX3_quiet SC stL2.2.1).bind fun r4 =>
    if r4 < (Sc_window SC) then (
      FX7_findLate_j39 PL SC stL2 stL2.1
    ) else (
      nm (stL2.1 ||| ((1 : Int32) <<< (stL2.2.1 &&& 31))) fun x18 =>
      FX7_findLate_j39 PL SC stL2 x18
    )
  )
noncomputable def FX7_findLate (VW : VwT) (PL : PlT) (SC : ScT) : Option (VwT) :=
  nm (sVw_slow VW (0 : Int32)) fun VW1 =>
  (itr (FX7_findLate_10 PL SC) ((0 : Int32), (0 : Int32), VW1)).bind fun uL2 =>
  nm (sVw_soft uL2.2 (((Vw_heldUp uL2.2) &&& ((Vw_hard uL2.2) ^^^ (-1 : Int32))) &&& uL2.1)) fun VW19 =>
  nm (sVw_hung VW19 ((Vw_hard VW19) &&& uL2.1)) fun VW20 =>
  some VW20
set_option maxHeartbeats 4000000 in
set_option maxRecDepth 100000 in
theorem ctX7_findLate {l : Launch} {D : va_G} {k : Nat → ClassId} {Z : ZT} (hZ : ZOK Z) (ot : Nat) (o1 : Nat) (o2 : Nat) (aVW : Nat → Nat) (aPL : Nat → Nat) (aSC : Nat → Nat) {VW : VwT} {PL : PlT} {SC : ScT} {q : VwT} (hf : FX7_findLate VW PL SC = some q) :
    CM l D k Z yX7_findLate cX7_findLate 6 none 2 44 [.ref ot, .ref o1, .ref o2] none (kVw k ot aVW (VW) ++ (kPl k o1 aPL (PL) ++ (kSc k o2 aSC (SC)))) (kVw k ot aVW (q) ++ (kPl k o1 aPL (PL) ++ (kSc k o2 aSC (SC)))) := by
  refine CM.start hZ (by decide) (Nat.le_of_ble_eq_true rfl) ?_
  intro p e s m below meth c ls X hl G
  have hx := X.1
  have hb := X.2.1
  have hl : lv_has ls 6 [(0, .ref ot), (1, .ref o1), (2, .ref o2)] := hl
  unfold FX7_findLate at hf
  refine lv_iconst (v := 0) hx hb dX7_findLate_0 (by decide) ?_
  refine lv_istore_n (lv' := [(3, .int (0 : Int32)), (0, .ref ot), (1, .ref o1), (2, .ref o2)]) hx hb dX7_findLate_1 rfl hl (by decide) rfl (fun ls hl => ?_)
  refine lv_aload_n hx hb dX7_findLate_2 rfl (lv_at hl 1 rfl) ?_
  refine lv_iconst (v := 0) hx hb dX7_findLate_3 (by decide) ?_
  obtain ⟨VW1, eVW1, hf⟩ := nm_some hf
  refine r_put X inw_X7 tyX7 tyX7_ok nmX7 G 0 rfl rfl 6 (by decide) fl_X7_30 rfl rfl rfl (Nat.le_of_ble_eq_true rfl) (ws' := kVw k ot aVW (VW1) ++ (kPl k o1 aPL (PL) ++ (kSc k o2 aSC (SC)))) (by subst eVW1; rfl) dX7_findLate_4 (fun H locs G => ?_)
  refine lv_iconst (v := 0) hx hb dX7_findLate_7 (by decide) ?_
  refine lv_istore (lv' := [(4, .int (0 : Int32)), (3, .int (0 : Int32)), (0, .ref ot), (1, .ref o1), (2, .ref o2)]) hx hb dX7_findLate_8 hl (by decide) rfl (fun ls hl => ?_)
  obtain ⟨exL2, hitL2, hfL2⟩ := bd_some hf
  obtain ⟨nL2, hitL2⟩ := itr_ex hitL2
  have KL2_0 : ∀ (u : Int32 × VwT) (H : Heap) (locs : List Loc) (ls : Array Slot), exL2 = u → Wo D (wA (kVw k ot aVW (VW) ++ (kPl k o1 aPL (PL) ++ (kSc k o2 aSC (SC))))) s.heap (kVw k ot aVW (u.2) ++ (kPl k o1 aPL (PL) ++ (kSc k o2 aSC (SC)))) H locs → lv_has ls 6 [(0, .ref ot), (3, .int (u.1))] → W p l e (rmz 2 44) s m [.ref ot, .ref o1, .ref o2].toArray below meth c H locs 0 0 (MQ below (Qm D none (kVw k ot aVW (VW) ++ (kPl k o1 aPL (PL) ++ (kSc k o2 aSC (SC)))) (kVw k ot aVW (q) ++ (kPl k o1 aPL (PL) ++ (kSc k o2 aSC (SC))))) [.ref ot, .ref o1, .ref o2].toArray s 0 0 (wA (kVw k ot aVW (VW) ++ (kPl k o1 aPL (PL) ++ (kSc k o2 aSC (SC)))))) (F0 m 106 ls []) := by
    intro uL2 H locs ls hex G hl
    rw [hex] at hfL2
    have hf := hfL2
    refine lv_aload_n hx hb dX7_findLate_106 rfl (lv_at hl 0 rfl) ?_
    refine lv_aload_n hx hb dX7_findLate_107 rfl (lv_at hl 0 rfl) ?_
    refine r_get X inw_X7 G 0 rfl rfl 2 (by decide) fl_X7_18 (v := .int (Vw_heldUp uL2.2)) rfl dX7_findLate_108 ?_
    refine lv_aload_n hx hb dX7_findLate_111 rfl (lv_at hl 0 rfl) ?_
    refine r_get X inw_X7 G 0 rfl rfl 4 (by decide) fl_X7_24 (v := .int (Vw_hard uL2.2)) rfl dX7_findLate_112 ?_
    refine lv_iconst (v := -1) hx hb dX7_findLate_115 (by decide) ?_
    refine lv_ixor hx hb dX7_findLate_116 ?_
    refine lv_iand hx hb dX7_findLate_117 ?_
    refine lv_iload_n hx hb dX7_findLate_118 rfl (lv_at hl 1 rfl) ?_
    refine lv_iand hx hb dX7_findLate_119 ?_
    obtain ⟨VW19, eVW19, hf⟩ := nm_some hf
    refine r_put X inw_X7 tyX7 tyX7_ok nmX7 G 0 rfl rfl 5 (by decide) fl_X7_27 rfl rfl rfl (Nat.le_of_ble_eq_true rfl) (ws' := kVw k ot aVW (VW19) ++ (kPl k o1 aPL (PL) ++ (kSc k o2 aSC (SC)))) (by subst eVW19; rfl) dX7_findLate_120 (fun H locs G => ?_)
    refine lv_aload_n hx hb dX7_findLate_123 rfl (lv_at hl 0 rfl) ?_
    refine lv_aload_n hx hb dX7_findLate_124 rfl (lv_at hl 0 rfl) ?_
    refine r_get X inw_X7 G 0 rfl rfl 4 (by decide) fl_X7_24 (v := .int (Vw_hard VW19)) rfl dX7_findLate_125 ?_
    refine lv_iload_n hx hb dX7_findLate_128 rfl (lv_at hl 1 rfl) ?_
    refine lv_iand hx hb dX7_findLate_129 ?_
    obtain ⟨VW20, eVW20, hf⟩ := nm_some hf
    refine r_put X inw_X7 tyX7 tyX7_ok nmX7 G 0 rfl rfl 7 (by decide) fl_X7_33 rfl rfl rfl (Nat.le_of_ble_eq_true rfl) (ws' := kVw k ot aVW (VW20) ++ (kPl k o1 aPL (PL) ++ (kSc k o2 aSC (SC)))) (by subst eVW20; rfl) dX7_findLate_130 (fun H locs G => ?_)
    cases hf
    exact e_mv X G dX7_findLate_133
  have LL2 : ∀ (n : Nat) (stL2 : Int32 × Int32 × VwT) (H : Heap) (locs : List Loc) (ls : Array Slot), Wo D (wA (kVw k ot aVW (VW) ++ (kPl k o1 aPL (PL) ++ (kSc k o2 aSC (SC))))) s.heap (kVw k ot aVW (stL2.2.2) ++ (kPl k o1 aPL (PL) ++ (kSc k o2 aSC (SC)))) H locs → lv_has ls 6 [(0, .ref ot), (1, .ref o1), (2, .ref o2), (3, .int (stL2.1)), (4, .int (stL2.2.1))] → it (FX7_findLate_10 PL SC) n stL2 = some exL2 → W p l e (rmz 2 44) s m [.ref ot, .ref o1, .ref o2].toArray below meth c H locs 0 0 (MQ below (Qm D none (kVw k ot aVW (VW) ++ (kPl k o1 aPL (PL) ++ (kSc k o2 aSC (SC)))) (kVw k ot aVW (q) ++ (kPl k o1 aPL (PL) ++ (kSc k o2 aSC (SC))))) [.ref ot, .ref o1, .ref o2].toArray s 0 0 (wA (kVw k ot aVW (VW) ++ (kPl k o1 aPL (PL) ++ (kSc k o2 aSC (SC)))))) (F0 m 10 ls []) := by
    intro n
    induction n with
    | zero =>
      intro stL2 H locs ls G hl hit
      exact (it_zero hit).elim
    | succ n ih =>
      intro stL2 H locs ls G hl hit
      obtain ⟨oL2, hf, hoL2⟩ := it_bd hit
      unfold FX7_findLate_10 at hf
      refine lv_iload hx hb dX7_findLate_10 (lv_at hl 4 rfl) ?_
      refine lv_aload_n hx hb dX7_findLate_12 rfl (lv_at hl 0 rfl) ?_
      refine r_get X inw_X7 G 0 rfl rfl 0 (by decide) fl_X7_9 (v := .int (Vw_workers stL2.2.2)) rfl dX7_findLate_13 ?_
      refine lv_icmp_ge (tgt := 106) hx hb dX7_findLate_16 (by decide) (fun c3 => ?_) (fun c3 => ?_)
      · replace hf := if_t hf c3
        cases hf
        exact KL2_0 (stL2.1, stL2.2.2) _ _ _ (it_out hoL2) G (lv_sub hl [0, 3] rfl)
      · replace hf := if_f hf c3
        refine lv_aload_n hx hb dX7_findLate_19 rfl (lv_at hl 2 rfl) ?_
        refine lv_iload hx hb dX7_findLate_20 (lv_at hl 4 rfl) ?_
        obtain ⟨r4, hcr4, hf⟩ := bd_some hf
        refine p_R (st1 := [.int r4]) (run_V (rest := []) X (ctX3_quiet hZ o2 aSC hcr4) mk_X3_quiet ml_X7_102 ⟨(Nat.le_of_ble_eq_true rfl), (Nat.le_of_ble_eq_true rfl)⟩ G [10, 11, 12, 13, 14, 15, 16, 17, 18] rfl rfl 10 rfl rfl rfl hl.1 rfl (Nat.le_of_ble_eq_true rfl) dX7_findLate_22 ⟨Nat.zero_le _, Nat.zero_le _⟩) rfl ?_
        refine lv_aload_n hx hb dX7_findLate_25 rfl (lv_at hl 2 rfl) ?_
        refine r_get X inw_X3 G 10 rfl rfl 1 (by decide) fl_X7_106 (v := .int (Sc_window SC)) rfl dX7_findLate_26 ?_
        have JJ5 : ∀ (vJ5 : Int32) (H : Heap) (locs : List Loc) (ls : Array Slot), Wo D (wA (kVw k ot aVW (VW) ++ (kPl k o1 aPL (PL) ++ (kSc k o2 aSC (SC))))) s.heap (kVw k ot aVW (stL2.2.2) ++ (kPl k o1 aPL (PL) ++ (kSc k o2 aSC (SC)))) H locs → lv_has ls 6 [(0, .ref ot), (1, .ref o1), (2, .ref o2), (3, .int vJ5), (4, .int (stL2.2.1))] → FX7_findLate_j39 PL SC stL2 vJ5 = some oL2 → W p l e (rmz 2 44) s m [.ref ot, .ref o1, .ref o2].toArray below meth c H locs 0 0 (MQ below (Qm D none (kVw k ot aVW (VW) ++ (kPl k o1 aPL (PL) ++ (kSc k o2 aSC (SC)))) (kVw k ot aVW (q) ++ (kPl k o1 aPL (PL) ++ (kSc k o2 aSC (SC))))) [.ref ot, .ref o1, .ref o2].toArray s 0 0 (wA (kVw k ot aVW (VW) ++ (kPl k o1 aPL (PL) ++ (kSc k o2 aSC (SC)))))) (F0 m 39 ls []) := by
          intro vJ5 H locs ls G hl hf
          unfold FX7_findLate_j39 at hf
          refine lv_aload_n hx hb dX7_findLate_39 rfl (lv_at hl 1 rfl) ?_
          refine lv_iload hx hb dX7_findLate_40 (lv_at hl 4 rfl) ?_
          refine lv_aload_n hx hb dX7_findLate_42 rfl (lv_at hl 2 rfl) ?_
          refine r_get X inw_X3 G 10 rfl rfl 3 (by decide) fl_X7_55 (v := .ref (aSC 0)) rfl dX7_findLate_43 ?_
          refine lv_iload hx hb dX7_findLate_46 (lv_at hl 4 rfl) ?_
          obtain ⟨h6, hf⟩ := ix_some hf
          refine r_iald X G 11 rfl h6 dX7_findLate_48 ?_
          obtain ⟨r7, hcr7, hf⟩ := bd_some hf
          refine p_R (st1 := [.int r7]) (run_V (rest := []) X (ctX1_kindAt hZ o1 aPL hcr7) mk_X1_kindAt ml_X7_82 ⟨(Nat.le_of_ble_eq_true rfl), (Nat.le_of_ble_eq_true rfl)⟩ G [4, 5, 6, 7, 8, 9] rfl rfl 4 rfl rfl rfl hl.1 rfl (Nat.le_of_ble_eq_true rfl) dX7_findLate_49 ⟨Nat.zero_le _, Nat.zero_le _⟩) rfl ?_
          refine lv_bipush (v := 7) hx hb dX7_findLate_52 (by decide) ?_
          have JJ8 : ∀ (vJ8 : Int32) (H : Heap) (locs : List Loc) (ls : Array Slot), Wo D (wA (kVw k ot aVW (VW) ++ (kPl k o1 aPL (PL) ++ (kSc k o2 aSC (SC))))) s.heap (kVw k ot aVW (stL2.2.2) ++ (kPl k o1 aPL (PL) ++ (kSc k o2 aSC (SC)))) H locs → lv_has ls 6 [(0, .ref ot), (1, .ref o1), (2, .ref o2), (3, .int vJ5), (4, .int (stL2.2.1))] → FX7_findLate_j62 SC stL2 vJ5 vJ8 = some oL2 → W p l e (rmz 2 44) s m [.ref ot, .ref o1, .ref o2].toArray below meth c H locs 0 0 (MQ below (Qm D none (kVw k ot aVW (VW) ++ (kPl k o1 aPL (PL) ++ (kSc k o2 aSC (SC)))) (kVw k ot aVW (q) ++ (kPl k o1 aPL (PL) ++ (kSc k o2 aSC (SC))))) [.ref ot, .ref o1, .ref o2].toArray s 0 0 (wA (kVw k ot aVW (VW) ++ (kPl k o1 aPL (PL) ++ (kSc k o2 aSC (SC)))))) (F0 m 62 ls [.int vJ8]) := by
            intro vJ8 H locs ls G hl hf
            unfold FX7_findLate_j62 at hf
            refine lv_istore (lv' := [(5, .int vJ8), (0, .ref ot), (1, .ref o1), (2, .ref o2), (3, .int vJ5), (4, .int (stL2.2.1))]) hx hb dX7_findLate_62 hl (by decide) rfl (fun ls hl => ?_)
            refine lv_iload hx hb dX7_findLate_64 (lv_at hl 0 rfl) ?_
            refine lv_if_eq (tgt := 100) hx hb dX7_findLate_66 (by decide) (fun c9 => ?_) (fun c9 => ?_)
            · replace hf := if_t hf c9
              obtain ⟨x10, ex10, hf⟩ := nm_some hf
              refine lv_iinc (v := x10) (lv' := [(4, .int x10), (5, .int vJ8), (0, .ref ot), (1, .ref o1), (2, .ref o2), (3, .int vJ5)]) hx hb dX7_findLate_100 hl (k := 5) rfl (by subst ex10; rfl) (by decide) rfl (fun ls hl => ?_)
              refine lv_goto (tgt := 10) hx hb dX7_findLate_103 (by decide) ?_
              cases hf
              exact ih (vJ5, x10, stL2.2.2) _ _ _ G (lv_sub hl [2, 3, 4, 5, 0] rfl) hoL2
            · replace hf := if_f hf c9
              refine lv_aload_n hx hb dX7_findLate_69 rfl (lv_at hl 3 rfl) ?_
              refine lv_iload hx hb dX7_findLate_70 (lv_at hl 5 rfl) ?_
              obtain ⟨r11, hcr11, hf⟩ := bd_some hf
              refine p_R (st1 := [.int r11]) (run_V (rest := []) X (ctX3_quiet hZ o2 aSC hcr11) mk_X3_quiet ml_X7_102 ⟨(Nat.le_of_ble_eq_true rfl), (Nat.le_of_ble_eq_true rfl)⟩ G [10, 11, 12, 13, 14, 15, 16, 17, 18] rfl rfl 10 rfl rfl rfl hl.1 rfl (Nat.le_of_ble_eq_true rfl) dX7_findLate_72 ⟨Nat.zero_le _, Nat.zero_le _⟩) rfl ?_
              refine lv_aload_n hx hb dX7_findLate_75 rfl (lv_at hl 3 rfl) ?_
              refine r_get X inw_X3 G 10 rfl rfl 1 (by decide) fl_X7_106 (v := .int (Sc_window SC)) rfl dX7_findLate_76 ?_
              refine lv_aload_n hx hb dX7_findLate_79 rfl (lv_at hl 3 rfl) ?_
              refine r_get X inw_X3 G 10 rfl rfl 2 (by decide) fl_X7_109 (v := .int (Sc_grace SC)) rfl dX7_findLate_80 ?_
              refine lv_iadd hx hb dX7_findLate_83 ?_
              refine lv_icmp_lt (tgt := 100) hx hb dX7_findLate_84 (by decide) (fun c12 => ?_) (fun c12 => ?_)
              · replace hf := if_t hf c12
                obtain ⟨x13, ex13, hf⟩ := nm_some hf
                refine lv_iinc (v := x13) (lv' := [(4, .int x13), (5, .int vJ8), (0, .ref ot), (1, .ref o1), (2, .ref o2), (3, .int vJ5)]) hx hb dX7_findLate_100 hl (k := 5) rfl (by subst ex13; rfl) (by decide) rfl (fun ls hl => ?_)
                refine lv_goto (tgt := 10) hx hb dX7_findLate_103 (by decide) ?_
                cases hf
                exact ih (vJ5, x13, stL2.2.2) _ _ _ G (lv_sub hl [2, 3, 4, 5, 0] rfl) hoL2
              · replace hf := if_f hf c12
                refine lv_aload_n hx hb dX7_findLate_87 rfl (lv_at hl 1 rfl) ?_
                refine lv_dup hx hb dX7_findLate_88 rfl ?_
                refine r_get X inw_X7 G 0 rfl rfl 6 (by decide) fl_X7_30 (v := .int (Vw_slow stL2.2.2)) rfl dX7_findLate_89 ?_
                refine lv_iconst (v := 1) hx hb dX7_findLate_92 (by decide) ?_
                refine lv_iload hx hb dX7_findLate_93 (lv_at hl 5 rfl) ?_
                refine lv_ishl hx hb dX7_findLate_95 ?_
                refine lv_ior hx hb dX7_findLate_96 ?_
                obtain ⟨VW14, eVW14, hf⟩ := nm_some hf
                refine r_put X inw_X7 tyX7 tyX7_ok nmX7 G 0 rfl rfl 6 (by decide) fl_X7_30 rfl rfl rfl (Nat.le_of_ble_eq_true rfl) (ws' := kVw k ot aVW (VW14) ++ (kPl k o1 aPL (PL) ++ (kSc k o2 aSC (SC)))) (by subst eVW14; rfl) dX7_findLate_97 (fun H locs G => ?_)
                obtain ⟨x15, ex15, hf⟩ := nm_some hf
                refine lv_iinc (v := x15) (lv' := [(4, .int x15), (5, .int vJ8), (0, .ref ot), (1, .ref o1), (2, .ref o2), (3, .int vJ5)]) hx hb dX7_findLate_100 hl (k := 5) rfl (by subst ex15; rfl) (by decide) rfl (fun ls hl => ?_)
                refine lv_goto (tgt := 10) hx hb dX7_findLate_103 (by decide) ?_
                cases hf
                exact ih (vJ5, x15, VW14) _ _ _ G (lv_sub hl [2, 3, 4, 5, 0] rfl) hoL2
          refine lv_icmp_ne (tgt := 61) hx hb dX7_findLate_54 (by decide) (fun c16 => ?_) (fun c16 => ?_)
          · replace hf := if_f hf c16
            refine lv_iconst (v := 0) hx hb dX7_findLate_61 (by decide) ?_
            exact JJ8 (0 : Int32) _ _ _ G (lv_sub hl [0, 1, 2, 3, 4] rfl) hf
          · replace hf := if_t hf c16
            refine lv_iconst (v := 1) hx hb dX7_findLate_57 (by decide) ?_
            refine lv_goto (tgt := 62) hx hb dX7_findLate_58 (by decide) ?_
            exact JJ8 (1 : Int32) _ _ _ G (lv_sub hl [0, 1, 2, 3, 4] rfl) hf
        refine lv_icmp_lt (tgt := 39) hx hb dX7_findLate_29 (by decide) (fun c17 => ?_) (fun c17 => ?_)
        · replace hf := if_t hf c17
          exact JJ5 stL2.1 _ _ _ G (lv_sub hl [0, 1, 2, 3, 4] rfl) hf
        · replace hf := if_f hf c17
          refine lv_iload_n hx hb dX7_findLate_32 rfl (lv_at hl 3 rfl) ?_
          refine lv_iconst (v := 1) hx hb dX7_findLate_33 (by decide) ?_
          refine lv_iload hx hb dX7_findLate_34 (lv_at hl 4 rfl) ?_
          refine lv_ishl hx hb dX7_findLate_36 ?_
          refine lv_ior hx hb dX7_findLate_37 ?_
          obtain ⟨x18, ex18, hf⟩ := nm_some hf
          refine r_top (congrArg Value.int ex18) ?_
          refine lv_istore_n (lv' := [(3, .int x18), (0, .ref ot), (1, .ref o1), (2, .ref o2), (4, .int (stL2.2.1))]) hx hb dX7_findLate_38 rfl hl (by decide) rfl (fun ls hl => ?_)
          exact JJ5 x18 _ _ _ G (lv_sub hl [1, 2, 3, 0, 4] rfl) hf
  exact LL2 nL2 ((0 : Int32), (0 : Int32), VW1) _ _ _ G (lv_sub hl [2, 3, 4, 1, 0] rfl) hitL2
theorem mk_X7_findLate : MV yX7_findLate cX7_findLate 6 none 2 := ⟨co_X7_findLate, in_X7, im_X7_findLate, se_X7_findLate, by decide +kernel, by decide +kernel⟩
noncomputable def FX7_look_25 (PL : PlT) (SC : ScT) : (Int32 × VwT) → Option ((Int32 × VwT) ⊕ (VwT)) := fun stL5 =>
  if (Vw_workers stL5.2) ≤ stL5.1 then (
    some (.inr stL5.2)
  ) else (
    ix stL5.1 8 <|
    (FX1_reachAt PL stL5.1 (Sc_place SC (Int32.toNatClampNeg stL5.1))).bind fun r8 =>
    ix stL5.1 8 <|
    nm (sVw_can stL5.2 (upd (Vw_can stL5.2) (Int32.toNatClampNeg stL5.1) r8)) fun VW10 =>
    nm (stL5.1 + 1) fun x11 =>
    some (.inl (x11, VW10))
  )
noncomputable def FX7_look_58 (PL : PlT) (SC : ScT) : (Int32 × VwT) → Option ((Int32 × VwT) ⊕ (VwT)) := fun stL12 =>
  if (Vw_workers stL12.2) ≤ stL12.1 then (
    some (.inr stL12.2)
  ) else (
    ix stL12.1 8 <|
    nm (sVw_waitsFor stL12.2 (upd (Vw_waitsFor stL12.2) (Int32.toNatClampNeg stL12.1) (0 : Int32))) fun VW15 =>
    ix stL12.1 8 <|
    if (Sc_place SC (Int32.toNatClampNeg stL12.1)) = (-1 : Int32) then (
      nm (sVw_ended VW15 ((Vw_ended VW15) ||| ((1 : Int32) <<< (stL12.1 &&& 31)))) fun VW27 =>
      nm (stL12.1 + 1) fun x28 =>
      some (.inl (x28, VW27))
    ) else (
      (FX3_canDo SC PL stL12.1).bind fun r18 =>
      if (bI r18) = 0 then (
        nm (sVw_heldUp VW15 ((Vw_heldUp VW15) ||| ((1 : Int32) <<< (stL12.1 &&& 31)))) fun VW20 =>
        (FX7_waitsOf VW20 PL SC stL12.1).bind fun r21 =>
        ix stL12.1 8 <|
        nm (sVw_waitsFor VW20 (upd (Vw_waitsFor VW20) (Int32.toNatClampNeg stL12.1) r21)) fun VW23 =>
        nm (stL12.1 + 1) fun x24 =>
        some (.inl (x24, VW23))
      ) else (
        nm (sVw_freeToGo VW15 ((Vw_freeToGo VW15) ||| ((1 : Int32) <<< (stL12.1 &&& 31)))) fun VW25 =>
        nm (stL12.1 + 1) fun x26 =>
        some (.inl (x26, VW25))
      )
    )
  )
noncomputable def FX7_look (VW : VwT) (PL : PlT) (SC : ScT) : Option (VwT) :=
  nm (sVw_workers VW (Pl_workers PL)) fun VW1 =>
  nm (sVw_ended VW1 (0 : Int32)) fun VW2 =>
  nm (sVw_heldUp VW2 (0 : Int32)) fun VW3 =>
  nm (sVw_freeToGo VW3 (0 : Int32)) fun VW4 =>
  (itr (FX7_look_25 PL SC) ((0 : Int32), VW4)).bind fun uL5 =>
  (itr (FX7_look_58 PL SC) ((0 : Int32), uL5)).bind fun uL12 =>
  (FX7_spreadFreedom uL12).bind fun r29 =>
  nm (sVw_hard r29 ((Vw_heldUp r29) &&& ((Vw_freeToGo r29) ^^^ (-1 : Int32)))) fun VW30 =>
  (FX7_findLate VW30 PL SC).bind fun r31 =>
  some r31
set_option maxHeartbeats 4000000 in
set_option maxRecDepth 100000 in
theorem ctX7_look {l : Launch} {D : va_G} {k : Nat → ClassId} {Z : ZT} (hZ : ZOK Z) (ot : Nat) (o1 : Nat) (o2 : Nat) (aVW : Nat → Nat) (aPL : Nat → Nat) (aSC : Nat → Nat) {VW : VwT} {PL : PlT} {SC : ScT} {q : VwT} (hf : FX7_look VW PL SC = some q) :
    CM l D k Z yX7_look cX7_look 4 none 3 69 [.ref ot, .ref o1, .ref o2] none (kVw k ot aVW (VW) ++ (kPl k o1 aPL (PL) ++ (kSc k o2 aSC (SC)))) (kVw k ot aVW (q) ++ (kPl k o1 aPL (PL) ++ (kSc k o2 aSC (SC)))) := by
  refine CM.start hZ (by decide) (Nat.le_of_ble_eq_true rfl) ?_
  intro p e s m below meth c ls X hl G
  have hx := X.1
  have hb := X.2.1
  have hl : lv_has ls 4 [(0, .ref ot), (1, .ref o1), (2, .ref o2)] := hl
  unfold FX7_look at hf
  refine lv_aload_n hx hb dX7_look_0 rfl (lv_at hl 0 rfl) ?_
  refine lv_aload_n hx hb dX7_look_1 rfl (lv_at hl 1 rfl) ?_
  refine r_get X inw_X1 G 4 rfl rfl 0 (by decide) fl_X7_52 (v := .int (Pl_workers PL)) rfl dX7_look_2 ?_
  obtain ⟨VW1, eVW1, hf⟩ := nm_some hf
  refine r_put X inw_X7 tyX7 tyX7_ok nmX7 G 0 rfl rfl 0 (by decide) fl_X7_9 rfl rfl rfl (Nat.le_of_ble_eq_true rfl) (ws' := kVw k ot aVW (VW1) ++ (kPl k o1 aPL (PL) ++ (kSc k o2 aSC (SC)))) (by subst eVW1; rfl) dX7_look_5 (fun H locs G => ?_)
  refine lv_aload_n hx hb dX7_look_8 rfl (lv_at hl 0 rfl) ?_
  refine lv_iconst (v := 0) hx hb dX7_look_9 (by decide) ?_
  obtain ⟨VW2, eVW2, hf⟩ := nm_some hf
  refine r_put X inw_X7 tyX7 tyX7_ok nmX7 G 0 rfl rfl 1 (by decide) fl_X7_15 rfl rfl rfl (Nat.le_of_ble_eq_true rfl) (ws' := kVw k ot aVW (VW2) ++ (kPl k o1 aPL (PL) ++ (kSc k o2 aSC (SC)))) (by subst eVW2; rfl) dX7_look_10 (fun H locs G => ?_)
  refine lv_aload_n hx hb dX7_look_13 rfl (lv_at hl 0 rfl) ?_
  refine lv_iconst (v := 0) hx hb dX7_look_14 (by decide) ?_
  obtain ⟨VW3, eVW3, hf⟩ := nm_some hf
  refine r_put X inw_X7 tyX7 tyX7_ok nmX7 G 0 rfl rfl 2 (by decide) fl_X7_18 rfl rfl rfl (Nat.le_of_ble_eq_true rfl) (ws' := kVw k ot aVW (VW3) ++ (kPl k o1 aPL (PL) ++ (kSc k o2 aSC (SC)))) (by subst eVW3; rfl) dX7_look_15 (fun H locs G => ?_)
  refine lv_aload_n hx hb dX7_look_18 rfl (lv_at hl 0 rfl) ?_
  refine lv_iconst (v := 0) hx hb dX7_look_19 (by decide) ?_
  obtain ⟨VW4, eVW4, hf⟩ := nm_some hf
  refine r_put X inw_X7 tyX7 tyX7_ok nmX7 G 0 rfl rfl 3 (by decide) fl_X7_21 rfl rfl rfl (Nat.le_of_ble_eq_true rfl) (ws' := kVw k ot aVW (VW4) ++ (kPl k o1 aPL (PL) ++ (kSc k o2 aSC (SC)))) (by subst eVW4; rfl) dX7_look_20 (fun H locs G => ?_)
  refine lv_iconst (v := 0) hx hb dX7_look_23 (by decide) ?_
  refine lv_istore_n (lv' := [(3, .int (0 : Int32)), (0, .ref ot), (1, .ref o1), (2, .ref o2)]) hx hb dX7_look_24 rfl hl (by decide) rfl (fun ls hl => ?_)
  obtain ⟨exL5, hitL5, hfL5⟩ := bd_some hf
  obtain ⟨nL5, hitL5⟩ := itr_ex hitL5
  have KL5_0 : ∀ (u : VwT) (H : Heap) (locs : List Loc) (ls : Array Slot), exL5 = u → Wo D (wA (kVw k ot aVW (VW) ++ (kPl k o1 aPL (PL) ++ (kSc k o2 aSC (SC))))) s.heap (kVw k ot aVW (u) ++ (kPl k o1 aPL (PL) ++ (kSc k o2 aSC (SC)))) H locs → lv_has ls 4 [(0, .ref ot), (1, .ref o1), (2, .ref o2)] → W p l e (rmz 3 69) s m [.ref ot, .ref o1, .ref o2].toArray below meth c H locs 0 0 (MQ below (Qm D none (kVw k ot aVW (VW) ++ (kPl k o1 aPL (PL) ++ (kSc k o2 aSC (SC)))) (kVw k ot aVW (q) ++ (kPl k o1 aPL (PL) ++ (kSc k o2 aSC (SC))))) [.ref ot, .ref o1, .ref o2].toArray s 0 0 (wA (kVw k ot aVW (VW) ++ (kPl k o1 aPL (PL) ++ (kSc k o2 aSC (SC)))))) (F0 m 56 ls []) := by
    intro uL5 H locs ls hex G hl
    rw [hex] at hfL5
    have hf := hfL5
    refine lv_iconst (v := 0) hx hb dX7_look_56 (by decide) ?_
    refine lv_istore_n (lv' := [(3, .int (0 : Int32)), (0, .ref ot), (1, .ref o1), (2, .ref o2)]) hx hb dX7_look_57 rfl hl (by decide) rfl (fun ls hl => ?_)
    obtain ⟨exL12, hitL12, hfL12⟩ := bd_some hf
    obtain ⟨nL12, hitL12⟩ := itr_ex hitL12
    have KL12_0 : ∀ (u : VwT) (H : Heap) (locs : List Loc) (ls : Array Slot), exL12 = u → Wo D (wA (kVw k ot aVW (VW) ++ (kPl k o1 aPL (PL) ++ (kSc k o2 aSC (SC))))) s.heap (kVw k ot aVW (u) ++ (kPl k o1 aPL (PL) ++ (kSc k o2 aSC (SC)))) H locs → lv_has ls 4 [(0, .ref ot), (1, .ref o1), (2, .ref o2)] → W p l e (rmz 3 69) s m [.ref ot, .ref o1, .ref o2].toArray below meth c H locs 0 0 (MQ below (Qm D none (kVw k ot aVW (VW) ++ (kPl k o1 aPL (PL) ++ (kSc k o2 aSC (SC)))) (kVw k ot aVW (q) ++ (kPl k o1 aPL (PL) ++ (kSc k o2 aSC (SC))))) [.ref ot, .ref o1, .ref o2].toArray s 0 0 (wA (kVw k ot aVW (VW) ++ (kPl k o1 aPL (PL) ++ (kSc k o2 aSC (SC)))))) (F0 m 153 ls []) := by
      intro uL12 H locs ls hex G hl
      rw [hex] at hfL12
      have hf := hfL12
      refine lv_aload_n hx hb dX7_look_153 rfl (lv_at hl 0 rfl) ?_
      obtain ⟨r29, hcr29, hf⟩ := bd_some hf
      refine p_N (st1 := []) (wr := kPl k o1 aPL (PL) ++ (kSc k o2 aSC (SC))) (ws' := kVw k ot aVW (r29) ++ (kPl k o1 aPL (PL) ++ (kSc k o2 aSC (SC)))) (run_V (rest := []) X (ctX7_spreadFreedom hZ ot aVW hcr29) mk_X7_spreadFreedom ml_X7_72 ⟨(Nat.le_of_ble_eq_true rfl), (Nat.le_of_ble_eq_true rfl)⟩ G [0, 1, 2, 3] rfl rfl 0 rfl rfl rfl hl.1 rfl (Nat.le_of_ble_eq_true rfl) dX7_look_154 ⟨Nat.zero_le _, Nat.zero_le _⟩) rfl G [0, 1, 2, 3] [4, 5, 6, 7, 8, 9, 10, 11, 12, 13, 14, 15, 16, 17, 18] 19 rfl rfl rfl rfl rfl (by decide) (by decide) rfl (fun H locs G => ?_)
      refine lv_aload_n hx hb dX7_look_157 rfl (lv_at hl 0 rfl) ?_
      refine lv_aload_n hx hb dX7_look_158 rfl (lv_at hl 0 rfl) ?_
      refine r_get X inw_X7 G 0 rfl rfl 2 (by decide) fl_X7_18 (v := .int (Vw_heldUp r29)) rfl dX7_look_159 ?_
      refine lv_aload_n hx hb dX7_look_162 rfl (lv_at hl 0 rfl) ?_
      refine r_get X inw_X7 G 0 rfl rfl 3 (by decide) fl_X7_21 (v := .int (Vw_freeToGo r29)) rfl dX7_look_163 ?_
      refine lv_iconst (v := -1) hx hb dX7_look_166 (by decide) ?_
      refine lv_ixor hx hb dX7_look_167 ?_
      refine lv_iand hx hb dX7_look_168 ?_
      obtain ⟨VW30, eVW30, hf⟩ := nm_some hf
      refine r_put X inw_X7 tyX7 tyX7_ok nmX7 G 0 rfl rfl 4 (by decide) fl_X7_24 rfl rfl rfl (Nat.le_of_ble_eq_true rfl) (ws' := kVw k ot aVW (VW30) ++ (kPl k o1 aPL (PL) ++ (kSc k o2 aSC (SC)))) (by subst eVW30; rfl) dX7_look_169 (fun H locs G => ?_)
      refine lv_aload_n hx hb dX7_look_172 rfl (lv_at hl 0 rfl) ?_
      refine lv_aload_n hx hb dX7_look_173 rfl (lv_at hl 1 rfl) ?_
      refine lv_aload_n hx hb dX7_look_174 rfl (lv_at hl 2 rfl) ?_
      obtain ⟨r31, hcr31, hf⟩ := bd_some hf
      refine p_N (st1 := []) (wr := []) (ws' := kVw k ot aVW (r31) ++ (kPl k o1 aPL (PL) ++ (kSc k o2 aSC (SC)))) (run_V (rest := []) X (ctX7_findLate hZ ot o1 o2 aVW aPL aSC hcr31) mk_X7_findLate ml_X7_75 ⟨(Nat.le_of_ble_eq_true rfl), (Nat.le_of_ble_eq_true rfl)⟩ G [0, 1, 2, 3, 4, 5, 6, 7, 8, 9, 10, 11, 12, 13, 14, 15, 16, 17, 18] rfl rfl 0 rfl rfl rfl hl.1 rfl (Nat.le_of_ble_eq_true rfl) dX7_look_175 ⟨Nat.zero_le _, Nat.zero_le _⟩) rfl G [0, 1, 2, 3, 4, 5, 6, 7, 8, 9, 10, 11, 12, 13, 14, 15, 16, 17, 18] [] 19 rfl rfl rfl rfl rfl (by decide) (by decide) rfl (fun H locs G => ?_)
      cases hf
      exact e_mv X G dX7_look_178
    have LL12 : ∀ (n : Nat) (stL12 : Int32 × VwT) (H : Heap) (locs : List Loc) (ls : Array Slot), Wo D (wA (kVw k ot aVW (VW) ++ (kPl k o1 aPL (PL) ++ (kSc k o2 aSC (SC))))) s.heap (kVw k ot aVW (stL12.2) ++ (kPl k o1 aPL (PL) ++ (kSc k o2 aSC (SC)))) H locs → lv_has ls 4 [(0, .ref ot), (1, .ref o1), (2, .ref o2), (3, .int (stL12.1))] → it (FX7_look_58 PL SC) n stL12 = some exL12 → W p l e (rmz 3 69) s m [.ref ot, .ref o1, .ref o2].toArray below meth c H locs 0 0 (MQ below (Qm D none (kVw k ot aVW (VW) ++ (kPl k o1 aPL (PL) ++ (kSc k o2 aSC (SC)))) (kVw k ot aVW (q) ++ (kPl k o1 aPL (PL) ++ (kSc k o2 aSC (SC))))) [.ref ot, .ref o1, .ref o2].toArray s 0 0 (wA (kVw k ot aVW (VW) ++ (kPl k o1 aPL (PL) ++ (kSc k o2 aSC (SC)))))) (F0 m 58 ls []) := by
      intro n
      induction n with
      | zero =>
        intro stL12 H locs ls G hl hit
        exact (it_zero hit).elim
      | succ n ih =>
        intro stL12 H locs ls G hl hit
        obtain ⟨oL12, hf, hoL12⟩ := it_bd hit
        unfold FX7_look_58 at hf
        refine lv_iload_n hx hb dX7_look_58 rfl (lv_at hl 3 rfl) ?_
        refine lv_aload_n hx hb dX7_look_59 rfl (lv_at hl 0 rfl) ?_
        refine r_get X inw_X7 G 0 rfl rfl 0 (by decide) fl_X7_9 (v := .int (Vw_workers stL12.2)) rfl dX7_look_60 ?_
        refine lv_icmp_ge (tgt := 153) hx hb dX7_look_63 (by decide) (fun c13 => ?_) (fun c13 => ?_)
        · replace hf := if_t hf c13
          cases hf
          exact KL12_0 stL12.2 _ _ _ (it_out hoL12) G (lv_sub hl [0, 1, 2] rfl)
        · replace hf := if_f hf c13
          refine lv_aload_n hx hb dX7_look_66 rfl (lv_at hl 0 rfl) ?_
          refine r_get X inw_X7 G 0 rfl rfl 9 (by decide) fl_X7_40 (v := .ref (aVW 1)) rfl dX7_look_67 ?_
          refine lv_iload_n hx hb dX7_look_70 rfl (lv_at hl 3 rfl) ?_
          refine lv_iconst (v := 0) hx hb dX7_look_71 (by decide) ?_
          obtain ⟨h14, hf⟩ := ix_some hf
          obtain ⟨VW15, eVW15, hf⟩ := nm_some hf
          refine r_iast X G 2 rfl h14 (ws' := kVw k ot aVW (VW15) ++ (kPl k o1 aPL (PL) ++ (kSc k o2 aSC (SC)))) (by subst eVW15; rfl) dX7_look_72 (fun H locs G => ?_)
          refine lv_aload_n hx hb dX7_look_73 rfl (lv_at hl 2 rfl) ?_
          refine r_get X inw_X3 G 10 rfl rfl 3 (by decide) fl_X7_55 (v := .ref (aSC 0)) rfl dX7_look_74 ?_
          refine lv_iload_n hx hb dX7_look_77 rfl (lv_at hl 3 rfl) ?_
          obtain ⟨h16, hf⟩ := ix_some hf
          refine r_iald X G 11 rfl h16 dX7_look_78 ?_
          refine lv_iconst (v := -1) hx hb dX7_look_79 (by decide) ?_
          refine lv_icmp_ne (tgt := 98) hx hb dX7_look_80 (by decide) (fun c17 => ?_) (fun c17 => ?_)
          · replace hf := if_f hf c17
            refine lv_aload_n hx hb dX7_look_98 rfl (lv_at hl 2 rfl) ?_
            refine lv_aload_n hx hb dX7_look_99 rfl (lv_at hl 1 rfl) ?_
            refine lv_iload_n hx hb dX7_look_100 rfl (lv_at hl 3 rfl) ?_
            obtain ⟨r18, hcr18, hf⟩ := bd_some hf
            refine p_R (st1 := [.int (bI r18)]) (run_V (rest := []) X (ctX3_canDo hZ o2 o1 aSC aPL hcr18) mk_X3_canDo ml_X7_64 ⟨(Nat.le_of_ble_eq_true rfl), (Nat.le_of_ble_eq_true rfl)⟩ G [10, 11, 12, 13, 14, 15, 16, 17, 18, 4, 5, 6, 7, 8, 9] rfl rfl 10 rfl rfl rfl hl.1 rfl (Nat.le_of_ble_eq_true rfl) dX7_look_101 ⟨Nat.zero_le _, Nat.zero_le _⟩) rfl ?_
            refine lv_if_eq (tgt := 122) hx hb dX7_look_104 (by decide) (fun c19 => ?_) (fun c19 => ?_)
            · replace hf := if_t hf c19
              refine lv_aload_n hx hb dX7_look_122 rfl (lv_at hl 0 rfl) ?_
              refine lv_dup hx hb dX7_look_123 rfl ?_
              refine r_get X inw_X7 G 0 rfl rfl 2 (by decide) fl_X7_18 (v := .int (Vw_heldUp VW15)) rfl dX7_look_124 ?_
              refine lv_iconst (v := 1) hx hb dX7_look_127 (by decide) ?_
              refine lv_iload_n hx hb dX7_look_128 rfl (lv_at hl 3 rfl) ?_
              refine lv_ishl hx hb dX7_look_129 ?_
              refine lv_ior hx hb dX7_look_130 ?_
              obtain ⟨VW20, eVW20, hf⟩ := nm_some hf
              refine r_put X inw_X7 tyX7 tyX7_ok nmX7 G 0 rfl rfl 2 (by decide) fl_X7_18 rfl rfl rfl (Nat.le_of_ble_eq_true rfl) (ws' := kVw k ot aVW (VW20) ++ (kPl k o1 aPL (PL) ++ (kSc k o2 aSC (SC)))) (by subst eVW20; rfl) dX7_look_131 (fun H locs G => ?_)
              refine lv_aload_n hx hb dX7_look_134 rfl (lv_at hl 0 rfl) ?_
              refine r_get X inw_X7 G 0 rfl rfl 9 (by decide) fl_X7_40 (v := .ref (aVW 1)) rfl dX7_look_135 ?_
              refine lv_iload_n hx hb dX7_look_138 rfl (lv_at hl 3 rfl) ?_
              refine lv_aload_n hx hb dX7_look_139 rfl (lv_at hl 0 rfl) ?_
              refine lv_aload_n hx hb dX7_look_140 rfl (lv_at hl 1 rfl) ?_
              refine lv_aload_n hx hb dX7_look_141 rfl (lv_at hl 2 rfl) ?_
              refine lv_iload_n hx hb dX7_look_142 rfl (lv_at hl 3 rfl) ?_
              obtain ⟨r21, hcr21, hf⟩ := bd_some hf
              refine p_R (st1 := [.int r21, .int (stL12.1), .ref (aVW 1)]) (run_V (rest := [.int (stL12.1), .ref (aVW 1)]) X (ctX7_waitsOf hZ ot o1 o2 aVW aPL aSC hcr21) mk_X7_waitsOf ml_X7_68 ⟨(Nat.le_of_ble_eq_true rfl), (Nat.le_of_ble_eq_true rfl)⟩ G [0, 1, 2, 3, 4, 5, 6, 7, 8, 9, 10, 11, 12, 13, 14, 15, 16, 17, 18] rfl rfl 0 rfl rfl rfl hl.1 rfl (Nat.le_of_ble_eq_true rfl) dX7_look_143 ⟨Nat.zero_le _, Nat.zero_le _⟩) rfl ?_
              obtain ⟨h22, hf⟩ := ix_some hf
              obtain ⟨VW23, eVW23, hf⟩ := nm_some hf
              refine r_iast X G 2 rfl h22 (ws' := kVw k ot aVW (VW23) ++ (kPl k o1 aPL (PL) ++ (kSc k o2 aSC (SC)))) (by subst eVW23; rfl) dX7_look_146 (fun H locs G => ?_)
              obtain ⟨x24, ex24, hf⟩ := nm_some hf
              refine lv_iinc (v := x24) (lv' := [(3, .int x24), (0, .ref ot), (1, .ref o1), (2, .ref o2)]) hx hb dX7_look_147 hl (k := 3) rfl (by subst ex24; rfl) (by decide) rfl (fun ls hl => ?_)
              refine lv_goto (tgt := 58) hx hb dX7_look_150 (by decide) ?_
              cases hf
              exact ih (x24, VW23) _ _ _ G (lv_sub hl [1, 2, 3, 0] rfl) hoL12
            · replace hf := if_f hf c19
              refine lv_aload_n hx hb dX7_look_107 rfl (lv_at hl 0 rfl) ?_
              refine lv_dup hx hb dX7_look_108 rfl ?_
              refine r_get X inw_X7 G 0 rfl rfl 3 (by decide) fl_X7_21 (v := .int (Vw_freeToGo VW15)) rfl dX7_look_109 ?_
              refine lv_iconst (v := 1) hx hb dX7_look_112 (by decide) ?_
              refine lv_iload_n hx hb dX7_look_113 rfl (lv_at hl 3 rfl) ?_
              refine lv_ishl hx hb dX7_look_114 ?_
              refine lv_ior hx hb dX7_look_115 ?_
              obtain ⟨VW25, eVW25, hf⟩ := nm_some hf
              refine r_put X inw_X7 tyX7 tyX7_ok nmX7 G 0 rfl rfl 3 (by decide) fl_X7_21 rfl rfl rfl (Nat.le_of_ble_eq_true rfl) (ws' := kVw k ot aVW (VW25) ++ (kPl k o1 aPL (PL) ++ (kSc k o2 aSC (SC)))) (by subst eVW25; rfl) dX7_look_116 (fun H locs G => ?_)
              refine lv_goto (tgt := 147) hx hb dX7_look_119 (by decide) ?_
              obtain ⟨x26, ex26, hf⟩ := nm_some hf
              refine lv_iinc (v := x26) (lv' := [(3, .int x26), (0, .ref ot), (1, .ref o1), (2, .ref o2)]) hx hb dX7_look_147 hl (k := 3) rfl (by subst ex26; rfl) (by decide) rfl (fun ls hl => ?_)
              refine lv_goto (tgt := 58) hx hb dX7_look_150 (by decide) ?_
              cases hf
              exact ih (x26, VW25) _ _ _ G (lv_sub hl [1, 2, 3, 0] rfl) hoL12
          · replace hf := if_t hf c17
            refine lv_aload_n hx hb dX7_look_83 rfl (lv_at hl 0 rfl) ?_
            refine lv_dup hx hb dX7_look_84 rfl ?_
            refine r_get X inw_X7 G 0 rfl rfl 1 (by decide) fl_X7_15 (v := .int (Vw_ended VW15)) rfl dX7_look_85 ?_
            refine lv_iconst (v := 1) hx hb dX7_look_88 (by decide) ?_
            refine lv_iload_n hx hb dX7_look_89 rfl (lv_at hl 3 rfl) ?_
            refine lv_ishl hx hb dX7_look_90 ?_
            refine lv_ior hx hb dX7_look_91 ?_
            obtain ⟨VW27, eVW27, hf⟩ := nm_some hf
            refine r_put X inw_X7 tyX7 tyX7_ok nmX7 G 0 rfl rfl 1 (by decide) fl_X7_15 rfl rfl rfl (Nat.le_of_ble_eq_true rfl) (ws' := kVw k ot aVW (VW27) ++ (kPl k o1 aPL (PL) ++ (kSc k o2 aSC (SC)))) (by subst eVW27; rfl) dX7_look_92 (fun H locs G => ?_)
            refine lv_goto (tgt := 147) hx hb dX7_look_95 (by decide) ?_
            obtain ⟨x28, ex28, hf⟩ := nm_some hf
            refine lv_iinc (v := x28) (lv' := [(3, .int x28), (0, .ref ot), (1, .ref o1), (2, .ref o2)]) hx hb dX7_look_147 hl (k := 3) rfl (by subst ex28; rfl) (by decide) rfl (fun ls hl => ?_)
            refine lv_goto (tgt := 58) hx hb dX7_look_150 (by decide) ?_
            cases hf
            exact ih (x28, VW27) _ _ _ G (lv_sub hl [1, 2, 3, 0] rfl) hoL12
    exact LL12 nL12 ((0 : Int32), uL5) _ _ _ G (lv_sub hl [1, 2, 3, 0] rfl) hitL12
  have LL5 : ∀ (n : Nat) (stL5 : Int32 × VwT) (H : Heap) (locs : List Loc) (ls : Array Slot), Wo D (wA (kVw k ot aVW (VW) ++ (kPl k o1 aPL (PL) ++ (kSc k o2 aSC (SC))))) s.heap (kVw k ot aVW (stL5.2) ++ (kPl k o1 aPL (PL) ++ (kSc k o2 aSC (SC)))) H locs → lv_has ls 4 [(0, .ref ot), (1, .ref o1), (2, .ref o2), (3, .int (stL5.1))] → it (FX7_look_25 PL SC) n stL5 = some exL5 → W p l e (rmz 3 69) s m [.ref ot, .ref o1, .ref o2].toArray below meth c H locs 0 0 (MQ below (Qm D none (kVw k ot aVW (VW) ++ (kPl k o1 aPL (PL) ++ (kSc k o2 aSC (SC)))) (kVw k ot aVW (q) ++ (kPl k o1 aPL (PL) ++ (kSc k o2 aSC (SC))))) [.ref ot, .ref o1, .ref o2].toArray s 0 0 (wA (kVw k ot aVW (VW) ++ (kPl k o1 aPL (PL) ++ (kSc k o2 aSC (SC)))))) (F0 m 25 ls []) := by
    intro n
    induction n with
    | zero =>
      intro stL5 H locs ls G hl hit
      exact (it_zero hit).elim
    | succ n ih =>
      intro stL5 H locs ls G hl hit
      obtain ⟨oL5, hf, hoL5⟩ := it_bd hit
      unfold FX7_look_25 at hf
      refine lv_iload_n hx hb dX7_look_25 rfl (lv_at hl 3 rfl) ?_
      refine lv_aload_n hx hb dX7_look_26 rfl (lv_at hl 0 rfl) ?_
      refine r_get X inw_X7 G 0 rfl rfl 0 (by decide) fl_X7_9 (v := .int (Vw_workers stL5.2)) rfl dX7_look_27 ?_
      refine lv_icmp_ge (tgt := 56) hx hb dX7_look_30 (by decide) (fun c6 => ?_) (fun c6 => ?_)
      · replace hf := if_t hf c6
        cases hf
        exact KL5_0 stL5.2 _ _ _ (it_out hoL5) G (lv_sub hl [0, 1, 2] rfl)
      · replace hf := if_f hf c6
        refine lv_aload_n hx hb dX7_look_33 rfl (lv_at hl 0 rfl) ?_
        refine r_get X inw_X7 G 0 rfl rfl 8 (by decide) fl_X7_36 (v := .ref (aVW 0)) rfl dX7_look_34 ?_
        refine lv_iload_n hx hb dX7_look_37 rfl (lv_at hl 3 rfl) ?_
        refine lv_aload_n hx hb dX7_look_38 rfl (lv_at hl 1 rfl) ?_
        refine lv_iload_n hx hb dX7_look_39 rfl (lv_at hl 3 rfl) ?_
        refine lv_aload_n hx hb dX7_look_40 rfl (lv_at hl 2 rfl) ?_
        refine r_get X inw_X3 G 10 rfl rfl 3 (by decide) fl_X7_55 (v := .ref (aSC 0)) rfl dX7_look_41 ?_
        refine lv_iload_n hx hb dX7_look_44 rfl (lv_at hl 3 rfl) ?_
        obtain ⟨h7, hf⟩ := ix_some hf
        refine r_iald X G 11 rfl h7 dX7_look_45 ?_
        obtain ⟨r8, hcr8, hf⟩ := bd_some hf
        refine p_R (st1 := [.int r8, .int (stL5.1), .ref (aVW 0)]) (run_V (rest := [.int (stL5.1), .ref (aVW 0)]) X (ctX1_reachAt hZ o1 aPL hcr8) mk_X1_reachAt ml_X7_60 ⟨(Nat.le_of_ble_eq_true rfl), (Nat.le_of_ble_eq_true rfl)⟩ G [4, 5, 6, 7, 8, 9] rfl rfl 4 rfl rfl rfl hl.1 rfl (Nat.le_of_ble_eq_true rfl) dX7_look_46 ⟨Nat.zero_le _, Nat.zero_le _⟩) rfl ?_
        obtain ⟨h9, hf⟩ := ix_some hf
        obtain ⟨VW10, eVW10, hf⟩ := nm_some hf
        refine r_iast X G 1 rfl h9 (ws' := kVw k ot aVW (VW10) ++ (kPl k o1 aPL (PL) ++ (kSc k o2 aSC (SC)))) (by subst eVW10; rfl) dX7_look_49 (fun H locs G => ?_)
        obtain ⟨x11, ex11, hf⟩ := nm_some hf
        refine lv_iinc (v := x11) (lv' := [(3, .int x11), (0, .ref ot), (1, .ref o1), (2, .ref o2)]) hx hb dX7_look_50 hl (k := 3) rfl (by subst ex11; rfl) (by decide) rfl (fun ls hl => ?_)
        refine lv_goto (tgt := 25) hx hb dX7_look_53 (by decide) ?_
        cases hf
        exact ih (x11, VW10) _ _ _ G (lv_sub hl [1, 2, 3, 0] rfl) hoL5
  exact LL5 nL5 ((0 : Int32), VW4) _ _ _ G (lv_sub hl [1, 2, 3, 0] rfl) hitL5
theorem mk_X7_look : MV yX7_look cX7_look 4 none 2 := ⟨co_X7_look, in_X7, im_X7_look, se_X7_look, by decide +kernel, by decide +kernel⟩
noncomputable def FX7_stallKind (VW : VwT) (v1 : Int32) : Option (Int32) :=
  (FX9_has (Vw_hung VW) v1).bind fun r1 =>
  if (bI r1) = 0 then (
    (FX9_has (Vw_soft VW) v1).bind fun r3 =>
    if (bI r3) = 0 then (
      (FX9_has (Vw_slow VW) v1).bind fun r5 =>
      if (bI r5) = 0 then (
        some (-1 : Int32)
      ) else (
        some (2 : Int32)
      )
    ) else (
      some (1 : Int32)
    )
  ) else (
    some (0 : Int32)
  )
set_option maxHeartbeats 4000000 in
set_option maxRecDepth 100000 in
theorem ctX7_stallKind {l : Launch} {D : va_G} {k : Nat → ClassId} {Z : ZT} (hZ : ZOK Z) (ot : Nat) (aVW : Nat → Nat) {VW : VwT} {v1 : Int32} {q : Int32} (hf : FX7_stallKind VW v1 = some q) :
    CR l D k Z yX7_stallKind cX7_stallKind 2 (some .int) 1 21 [.ref ot, .int v1] (some (.int q)) (kVw k ot aVW (VW)) := by
  refine CR.start hZ (by decide) (Nat.le_of_ble_eq_true rfl) ?_
  intro p e s m below meth c ls X hl G
  have hx := X.1
  have hb := X.2.1
  have hl : lv_has ls 2 [(0, .ref ot), (1, .int v1)] := hl
  unfold FX7_stallKind at hf
  refine lv_aload_n hx hb dX7_stallKind_0 rfl (lv_at hl 0 rfl) ?_
  refine r_get X inw_X7 G 0 rfl rfl 7 (by decide) fl_X7_33 (v := .int (Vw_hung VW)) rfl dX7_stallKind_1 ?_
  refine lv_iload_n hx hb dX7_stallKind_4 rfl (lv_at hl 1 rfl) ?_
  obtain ⟨r1, hcr1, hf⟩ := bd_some hf
  refine p_R (st1 := [.int (bI r1)]) (run_N (rest := []) X (ctX9_has hZ hcr1) mk_X9_has mn_X7_98 ⟨(Nat.le_of_ble_eq_true rfl), (Nat.le_of_ble_eq_true rfl)⟩ G [] rfl rfl rfl hl.1 rfl (Nat.le_of_ble_eq_true rfl) dX7_stallKind_5 ⟨Nat.zero_le _, Nat.zero_le _⟩) rfl ?_
  refine lv_if_eq (tgt := 13) hx hb dX7_stallKind_8 (by decide) (fun c2 => ?_) (fun c2 => ?_)
  · replace hf := if_t hf c2
    refine lv_aload_n hx hb dX7_stallKind_13 rfl (lv_at hl 0 rfl) ?_
    refine r_get X inw_X7 G 0 rfl rfl 5 (by decide) fl_X7_27 (v := .int (Vw_soft VW)) rfl dX7_stallKind_14 ?_
    refine lv_iload_n hx hb dX7_stallKind_17 rfl (lv_at hl 1 rfl) ?_
    obtain ⟨r3, hcr3, hf⟩ := bd_some hf
    refine p_R (st1 := [.int (bI r3)]) (run_N (rest := []) X (ctX9_has hZ hcr3) mk_X9_has mn_X7_98 ⟨(Nat.le_of_ble_eq_true rfl), (Nat.le_of_ble_eq_true rfl)⟩ G [] rfl rfl rfl hl.1 rfl (Nat.le_of_ble_eq_true rfl) dX7_stallKind_18 ⟨Nat.zero_le _, Nat.zero_le _⟩) rfl ?_
    refine lv_if_eq (tgt := 26) hx hb dX7_stallKind_21 (by decide) (fun c4 => ?_) (fun c4 => ?_)
    · replace hf := if_t hf c4
      refine lv_aload_n hx hb dX7_stallKind_26 rfl (lv_at hl 0 rfl) ?_
      refine r_get X inw_X7 G 0 rfl rfl 6 (by decide) fl_X7_30 (v := .int (Vw_slow VW)) rfl dX7_stallKind_27 ?_
      refine lv_iload_n hx hb dX7_stallKind_30 rfl (lv_at hl 1 rfl) ?_
      obtain ⟨r5, hcr5, hf⟩ := bd_some hf
      refine p_R (st1 := [.int (bI r5)]) (run_N (rest := []) X (ctX9_has hZ hcr5) mk_X9_has mn_X7_98 ⟨(Nat.le_of_ble_eq_true rfl), (Nat.le_of_ble_eq_true rfl)⟩ G [] rfl rfl rfl hl.1 rfl (Nat.le_of_ble_eq_true rfl) dX7_stallKind_31 ⟨Nat.zero_le _, Nat.zero_le _⟩) rfl ?_
      refine lv_if_eq (tgt := 41) hx hb dX7_stallKind_34 (by decide) (fun c6 => ?_) (fun c6 => ?_)
      · replace hf := if_t hf c6
        refine lv_iconst (v := -1) hx hb dX7_stallKind_41 (by decide) ?_
        cases hf
        exact e_ri X dX7_stallKind_42
      · replace hf := if_f hf c6
        refine lv_iconst (v := 2) hx hb dX7_stallKind_37 (by decide) ?_
        refine lv_goto (tgt := 42) hx hb dX7_stallKind_38 (by decide) ?_
        cases hf
        exact e_ri X dX7_stallKind_42
    · replace hf := if_f hf c4
      refine lv_iconst (v := 1) hx hb dX7_stallKind_24 (by decide) ?_
      cases hf
      exact e_ri X dX7_stallKind_25
  · replace hf := if_f hf c2
    refine lv_iconst (v := 0) hx hb dX7_stallKind_11 (by decide) ?_
    cases hf
    exact e_ri X dX7_stallKind_12
theorem mk_X7_stallKind : MV yX7_stallKind cX7_stallKind 2 (some .int) 1 := ⟨co_X7_stallKind, in_X7, im_X7_stallKind, se_X7_stallKind, by decide +kernel, by decide +kernel⟩
noncomputable def FX7_tally (VW : VwT) (v1 : Int32) : Option (Int32) :=
  if v1 = (1 : Int32) then (
    (FJ6_bitCount_0f7a4 (Vw_ended VW)).bind fun r2 =>
    some r2
  ) else (
  if v1 = (5 : Int32) then (
    (FJ6_bitCount_0f7a4 (Vw_heldUp VW)).bind fun r4 =>
    some r4
  ) else (
  if v1 = (6 : Int32) then (
    (FJ6_bitCount_0f7a4 (Vw_freeToGo VW)).bind fun r6 =>
    some r6
  ) else (
  if v1 = (7 : Int32) then (
    (FJ6_bitCount_0f7a4 (Vw_hard VW)).bind fun r8 =>
    some r8
  ) else (
  if v1 = (8 : Int32) then (
    (FJ6_bitCount_0f7a4 (Vw_soft VW)).bind fun r10 =>
    some r10
  ) else (
  if v1 = (9 : Int32) then (
    (FJ6_bitCount_0f7a4 (Vw_slow VW)).bind fun r12 =>
    some r12
  ) else (
    some (-1 : Int32)
  ))))))
set_option maxHeartbeats 4000000 in
set_option maxRecDepth 100000 in
theorem ctX7_tally {l : Launch} {D : va_G} {k : Nat → ClassId} {Z : ZT} (hZ : ZOK Z) (ot : Nat) (aVW : Nat → Nat) {VW : VwT} {v1 : Int32} {q : Int32} (hf : FX7_tally VW v1 = some q) :
    CR l D k Z yX7_tally cX7_tally 2 (some .int) 1 20 [.ref ot, .int v1] (some (.int q)) (kVw k ot aVW (VW)) := by
  refine CR.start hZ (by decide) (Nat.le_of_ble_eq_true rfl) ?_
  intro p e s m below meth c ls X hl G
  have hx := X.1
  have hb := X.2.1
  have hl : lv_has ls 2 [(0, .ref ot), (1, .int v1)] := hl
  unfold FX7_tally at hf
  refine lv_iload_n hx hb dX7_tally_0 rfl (lv_at hl 1 rfl) ?_
  by_cases c1 : v1 = (1 : Int32)
  · replace hf := if_t hf c1
    refine r_tsw X (tgt := 52) dX7_tally_1 (by rw [c1]; decide +kernel) (by rw [c1]; decide +kernel) ?_
    refine lv_aload_n hx hb dX7_tally_52 rfl (lv_at hl 0 rfl) ?_
    refine r_get X inw_X7 G 0 rfl rfl 1 (by decide) fl_X7_15 (v := .int (Vw_ended VW)) rfl dX7_tally_53 ?_
    obtain ⟨r2, hcr2, hf⟩ := bd_some hf
    refine p_R (st1 := [.int r2]) (run_S (rest := []) X (ctJ6_bitCount_0f7a4 hZ hcr2) mk_J6_bitCount_0f7a4 ml_X7_112 ⟨(Nat.le_of_ble_eq_true rfl), (Nat.le_of_ble_eq_true rfl)⟩ G [] rfl rfl rfl hl.1 rfl (Nat.le_of_ble_eq_true rfl) dX7_tally_56 ⟨Nat.zero_le _, Nat.zero_le _⟩) rfl ?_
    cases hf
    exact e_ri X dX7_tally_59
  replace hf := if_f hf c1
  by_cases c3 : v1 = (5 : Int32)
  · replace hf := if_t hf c3
    refine r_tsw X (tgt := 60) dX7_tally_1 (by rw [c3]; decide +kernel) (by rw [c3]; decide +kernel) ?_
    refine lv_aload_n hx hb dX7_tally_60 rfl (lv_at hl 0 rfl) ?_
    refine r_get X inw_X7 G 0 rfl rfl 2 (by decide) fl_X7_18 (v := .int (Vw_heldUp VW)) rfl dX7_tally_61 ?_
    obtain ⟨r4, hcr4, hf⟩ := bd_some hf
    refine p_R (st1 := [.int r4]) (run_S (rest := []) X (ctJ6_bitCount_0f7a4 hZ hcr4) mk_J6_bitCount_0f7a4 ml_X7_112 ⟨(Nat.le_of_ble_eq_true rfl), (Nat.le_of_ble_eq_true rfl)⟩ G [] rfl rfl rfl hl.1 rfl (Nat.le_of_ble_eq_true rfl) dX7_tally_64 ⟨Nat.zero_le _, Nat.zero_le _⟩) rfl ?_
    cases hf
    exact e_ri X dX7_tally_67
  replace hf := if_f hf c3
  by_cases c5 : v1 = (6 : Int32)
  · replace hf := if_t hf c5
    refine r_tsw X (tgt := 68) dX7_tally_1 (by rw [c5]; decide +kernel) (by rw [c5]; decide +kernel) ?_
    refine lv_aload_n hx hb dX7_tally_68 rfl (lv_at hl 0 rfl) ?_
    refine r_get X inw_X7 G 0 rfl rfl 3 (by decide) fl_X7_21 (v := .int (Vw_freeToGo VW)) rfl dX7_tally_69 ?_
    obtain ⟨r6, hcr6, hf⟩ := bd_some hf
    refine p_R (st1 := [.int r6]) (run_S (rest := []) X (ctJ6_bitCount_0f7a4 hZ hcr6) mk_J6_bitCount_0f7a4 ml_X7_112 ⟨(Nat.le_of_ble_eq_true rfl), (Nat.le_of_ble_eq_true rfl)⟩ G [] rfl rfl rfl hl.1 rfl (Nat.le_of_ble_eq_true rfl) dX7_tally_72 ⟨Nat.zero_le _, Nat.zero_le _⟩) rfl ?_
    cases hf
    exact e_ri X dX7_tally_75
  replace hf := if_f hf c5
  by_cases c7 : v1 = (7 : Int32)
  · replace hf := if_t hf c7
    refine r_tsw X (tgt := 76) dX7_tally_1 (by rw [c7]; decide +kernel) (by rw [c7]; decide +kernel) ?_
    refine lv_aload_n hx hb dX7_tally_76 rfl (lv_at hl 0 rfl) ?_
    refine r_get X inw_X7 G 0 rfl rfl 4 (by decide) fl_X7_24 (v := .int (Vw_hard VW)) rfl dX7_tally_77 ?_
    obtain ⟨r8, hcr8, hf⟩ := bd_some hf
    refine p_R (st1 := [.int r8]) (run_S (rest := []) X (ctJ6_bitCount_0f7a4 hZ hcr8) mk_J6_bitCount_0f7a4 ml_X7_112 ⟨(Nat.le_of_ble_eq_true rfl), (Nat.le_of_ble_eq_true rfl)⟩ G [] rfl rfl rfl hl.1 rfl (Nat.le_of_ble_eq_true rfl) dX7_tally_80 ⟨Nat.zero_le _, Nat.zero_le _⟩) rfl ?_
    cases hf
    exact e_ri X dX7_tally_83
  replace hf := if_f hf c7
  by_cases c9 : v1 = (8 : Int32)
  · replace hf := if_t hf c9
    refine r_tsw X (tgt := 84) dX7_tally_1 (by rw [c9]; decide +kernel) (by rw [c9]; decide +kernel) ?_
    refine lv_aload_n hx hb dX7_tally_84 rfl (lv_at hl 0 rfl) ?_
    refine r_get X inw_X7 G 0 rfl rfl 5 (by decide) fl_X7_27 (v := .int (Vw_soft VW)) rfl dX7_tally_85 ?_
    obtain ⟨r10, hcr10, hf⟩ := bd_some hf
    refine p_R (st1 := [.int r10]) (run_S (rest := []) X (ctJ6_bitCount_0f7a4 hZ hcr10) mk_J6_bitCount_0f7a4 ml_X7_112 ⟨(Nat.le_of_ble_eq_true rfl), (Nat.le_of_ble_eq_true rfl)⟩ G [] rfl rfl rfl hl.1 rfl (Nat.le_of_ble_eq_true rfl) dX7_tally_88 ⟨Nat.zero_le _, Nat.zero_le _⟩) rfl ?_
    cases hf
    exact e_ri X dX7_tally_91
  replace hf := if_f hf c9
  by_cases c11 : v1 = (9 : Int32)
  · replace hf := if_t hf c11
    refine r_tsw X (tgt := 92) dX7_tally_1 (by rw [c11]; decide +kernel) (by rw [c11]; decide +kernel) ?_
    refine lv_aload_n hx hb dX7_tally_92 rfl (lv_at hl 0 rfl) ?_
    refine r_get X inw_X7 G 0 rfl rfl 6 (by decide) fl_X7_30 (v := .int (Vw_slow VW)) rfl dX7_tally_93 ?_
    obtain ⟨r12, hcr12, hf⟩ := bd_some hf
    refine p_R (st1 := [.int r12]) (run_S (rest := []) X (ctJ6_bitCount_0f7a4 hZ hcr12) mk_J6_bitCount_0f7a4 ml_X7_112 ⟨(Nat.le_of_ble_eq_true rfl), (Nat.le_of_ble_eq_true rfl)⟩ G [] rfl rfl rfl hl.1 rfl (Nat.le_of_ble_eq_true rfl) dX7_tally_96 ⟨Nat.zero_le _, Nat.zero_le _⟩) rfl ?_
    cases hf
    exact e_ri X dX7_tally_99
  replace hf := if_f hf c11
  have hd := tsw_d (x := v1) (lo' := 1) (hi' := 9) (dflt := 99) (offs := #[51, 99, 99, 99, 59, 67, 75, 83, 91]) [(1 : Int32), (5 : Int32), (6 : Int32), (7 : Int32), (8 : Int32), (9 : Int32)] (by
      intro k hk
      simp only [List.mem_cons, List.not_mem_nil, or_false] at hk
      rcases hk with rfl | rfl | rfl | rfl | rfl | rfl
      · exact c1
      · exact c3
      · exact c5
      · exact c7
      · exact c9
      · exact c11
      ) 8 (by decide) (by decide +kernel)
  refine r_tsw X (tgt := 100) dX7_tally_1 (by rw [hd.1]; rfl) hd.2 ?_
  refine lv_iconst (v := -1) hx hb dX7_tally_100 (by decide) ?_
  cases hf
  exact e_ri X dX7_tally_101
theorem mk_X7_tally : MV yX7_tally cX7_tally 2 (some .int) 1 := ⟨co_X7_tally, in_X7, im_X7_tally, se_X7_tally, by decide +kernel, by decide +kernel⟩
noncomputable def FX7_neighbour_j34 (VW : VwT) (stL1 : Int32) (vJ3 : Int32) : Option ((Int32) ⊕ ((Unit) ⊕ (Int32))) :=
  (FX9_has (Vw_ended VW) vJ3).bind fun r4 =>
  if (bI r4) = 0 then (
    (FX9_has (Vw_hard VW) vJ3).bind fun r7 =>
    if (bI r7) = 0 then (
      some (.inr (.inr (vJ3)))
    ) else (
      nm (stL1 + 1) fun x9 =>
      some (.inl x9)
    )
  ) else (
    nm (stL1 + 1) fun x6 =>
    some (.inl x6)
  )
noncomputable def FX7_neighbour_2 (VW : VwT) (v1 : Int32) : Int32 → Option ((Int32) ⊕ ((Unit) ⊕ (Int32))) := fun stL1 =>
  if (Vw_workers VW) ≤ stL1 then (
    some (.inr (.inl ()))
  ) else (
    if (Vw_workers VW) ≤ (v1 + stL1) then (
      FX7_neighbour_j34 VW stL1 ((v1 + stL1) - (Vw_workers VW))
    ) else (
      FX7_neighbour_j34 VW stL1 (v1 + stL1)
    )
  )
noncomputable def FX7_neighbour (VW : VwT) (v1 : Int32) : Option (Int32) :=
  (itr (FX7_neighbour_2 VW v1) (1 : Int32)).bind fun exL1 =>
  Sum.elim (fun uL1 =>
    some (-1 : Int32)
  )
  (fun uL1 =>
    some uL1
  ) exL1
set_option maxHeartbeats 4000000 in
set_option maxRecDepth 100000 in
theorem ctX7_neighbour {l : Launch} {D : va_G} {k : Nat → ClassId} {Z : ZT} (hZ : ZOK Z) (ot : Nat) (aVW : Nat → Nat) {VW : VwT} {v1 : Int32} {q : Int32} (hf : FX7_neighbour VW v1 = some q) :
    CR l D k Z yX7_neighbour cX7_neighbour 4 (some .int) 1 21 [.ref ot, .int v1] (some (.int q)) (kVw k ot aVW (VW)) := by
  refine CR.start hZ (by decide) (Nat.le_of_ble_eq_true rfl) ?_
  intro p e s m below meth c ls X hl G
  have hx := X.1
  have hb := X.2.1
  have hl : lv_has ls 4 [(0, .ref ot), (1, .int v1)] := hl
  unfold FX7_neighbour at hf
  refine lv_iconst (v := 1) hx hb dX7_neighbour_0 (by decide) ?_
  refine lv_istore_n (lv' := [(2, .int (1 : Int32)), (0, .ref ot), (1, .int v1)]) hx hb dX7_neighbour_1 rfl hl (by decide) rfl (fun ls hl => ?_)
  obtain ⟨exL1, hitL1, hfL1⟩ := bd_some hf
  obtain ⟨nL1, hitL1⟩ := itr_ex hitL1
  have KL1_0 : ∀ (u : Unit) (ls : Array Slot), exL1 = Sum.inl u → lv_has ls 4 [] → W p l e (rmz 1 21) s m [.ref ot, .int v1].toArray below meth c s.heap [] 0 0 (MQ below (Qr (some (.int q))) [.ref ot, .int v1].toArray s 0 0 (fun _ => False)) (F0 m 65 ls []) := by
    intro uL1 ls hex hl
    rw [hex] at hfL1
    have hf := hfL1
    replace hf := sl_l hf
    refine lv_iconst (v := -1) hx hb dX7_neighbour_65 (by decide) ?_
    cases hf
    exact e_ri X dX7_neighbour_66
  have KL1_1 : ∀ (u : Int32) (ls : Array Slot), exL1 = Sum.inr (u) → lv_has ls 4 [(3, .int u)] → W p l e (rmz 1 21) s m [.ref ot, .int v1].toArray below meth c s.heap [] 0 0 (MQ below (Qr (some (.int q))) [.ref ot, .int v1].toArray s 0 0 (fun _ => False)) (F0 m 57 ls []) := by
    intro uL1 ls hex hl
    rw [hex] at hfL1
    have hf := hfL1
    replace hf := sl_r hf
    refine lv_iload_n hx hb dX7_neighbour_57 rfl (lv_at hl 0 rfl) ?_
    cases hf
    exact e_ri X dX7_neighbour_58
  have LL1 : ∀ (n : Nat) (stL1 : Int32) (ls : Array Slot), lv_has ls 4 [(0, .ref ot), (1, .int v1), (2, .int stL1)] → it (FX7_neighbour_2 VW v1) n stL1 = some exL1 → W p l e (rmz 1 21) s m [.ref ot, .int v1].toArray below meth c s.heap [] 0 0 (MQ below (Qr (some (.int q))) [.ref ot, .int v1].toArray s 0 0 (fun _ => False)) (F0 m 2 ls []) := by
    intro n
    induction n with
    | zero =>
      intro stL1 ls hl hit
      exact (it_zero hit).elim
    | succ n ih =>
      intro stL1 ls hl hit
      obtain ⟨oL1, hf, hoL1⟩ := it_bd hit
      unfold FX7_neighbour_2 at hf
      refine lv_iload_n hx hb dX7_neighbour_2 rfl (lv_at hl 2 rfl) ?_
      refine lv_aload_n hx hb dX7_neighbour_3 rfl (lv_at hl 0 rfl) ?_
      refine r_get X inw_X7 G 0 rfl rfl 0 (by decide) fl_X7_9 (v := .int (Vw_workers VW)) rfl dX7_neighbour_4 ?_
      refine lv_icmp_ge (tgt := 65) hx hb dX7_neighbour_7 (by decide) (fun c2 => ?_) (fun c2 => ?_)
      · replace hf := if_t hf c2
        cases hf
        exact KL1_0 () _ (it_out hoL1) (lv_sub hl [] rfl)
      · replace hf := if_f hf c2
        refine lv_iload_n hx hb dX7_neighbour_10 rfl (lv_at hl 1 rfl) ?_
        refine lv_iload_n hx hb dX7_neighbour_11 rfl (lv_at hl 2 rfl) ?_
        refine lv_iadd hx hb dX7_neighbour_12 ?_
        refine lv_aload_n hx hb dX7_neighbour_13 rfl (lv_at hl 0 rfl) ?_
        refine r_get X inw_X7 G 0 rfl rfl 0 (by decide) fl_X7_9 (v := .int (Vw_workers VW)) rfl dX7_neighbour_14 ?_
        have JJ3 : ∀ (vJ3 : Int32) (ls : Array Slot), lv_has ls 4 [(0, .ref ot), (1, .int v1), (2, .int stL1)] → FX7_neighbour_j34 VW stL1 vJ3 = some oL1 → W p l e (rmz 1 21) s m [.ref ot, .int v1].toArray below meth c s.heap [] 0 0 (MQ below (Qr (some (.int q))) [.ref ot, .int v1].toArray s 0 0 (fun _ => False)) (F0 m 34 ls [.int vJ3]) := by
          intro vJ3 ls hl hf
          unfold FX7_neighbour_j34 at hf
          refine lv_istore_n (lv' := [(3, .int vJ3), (0, .ref ot), (1, .int v1), (2, .int stL1)]) hx hb dX7_neighbour_34 rfl hl (by decide) rfl (fun ls hl => ?_)
          refine lv_aload_n hx hb dX7_neighbour_35 rfl (lv_at hl 1 rfl) ?_
          refine r_get X inw_X7 G 0 rfl rfl 1 (by decide) fl_X7_15 (v := .int (Vw_ended VW)) rfl dX7_neighbour_36 ?_
          refine lv_iload_n hx hb dX7_neighbour_39 rfl (lv_at hl 0 rfl) ?_
          obtain ⟨r4, hcr4, hf⟩ := bd_some hf
          refine p_R (st1 := [.int (bI r4)]) (run_N (rest := []) X (ctX9_has hZ hcr4) mk_X9_has mn_X7_98 ⟨(Nat.le_of_ble_eq_true rfl), (Nat.le_of_ble_eq_true rfl)⟩ G [] rfl rfl rfl hl.1 rfl (Nat.le_of_ble_eq_true rfl) dX7_neighbour_40 ⟨Nat.zero_le _, Nat.zero_le _⟩) rfl ?_
          refine lv_if_ne (tgt := 59) hx hb dX7_neighbour_43 (by decide) (fun c5 => ?_) (fun c5 => ?_)
          · replace hf := if_f hf c5
            obtain ⟨x6, ex6, hf⟩ := nm_some hf
            refine lv_iinc (v := x6) (lv' := [(2, .int x6), (3, .int vJ3), (0, .ref ot), (1, .int v1)]) hx hb dX7_neighbour_59 hl (k := 3) rfl (by subst ex6; rfl) (by decide) rfl (fun ls hl => ?_)
            refine lv_goto (tgt := 2) hx hb dX7_neighbour_62 (by decide) ?_
            cases hf
            exact ih x6 _ (lv_sub hl [2, 3, 0] rfl) hoL1
          · replace hf := if_t hf c5
            refine lv_aload_n hx hb dX7_neighbour_46 rfl (lv_at hl 1 rfl) ?_
            refine r_get X inw_X7 G 0 rfl rfl 4 (by decide) fl_X7_24 (v := .int (Vw_hard VW)) rfl dX7_neighbour_47 ?_
            refine lv_iload_n hx hb dX7_neighbour_50 rfl (lv_at hl 0 rfl) ?_
            obtain ⟨r7, hcr7, hf⟩ := bd_some hf
            refine p_R (st1 := [.int (bI r7)]) (run_N (rest := []) X (ctX9_has hZ hcr7) mk_X9_has mn_X7_98 ⟨(Nat.le_of_ble_eq_true rfl), (Nat.le_of_ble_eq_true rfl)⟩ G [] rfl rfl rfl hl.1 rfl (Nat.le_of_ble_eq_true rfl) dX7_neighbour_51 ⟨Nat.zero_le _, Nat.zero_le _⟩) rfl ?_
            refine lv_if_ne (tgt := 59) hx hb dX7_neighbour_54 (by decide) (fun c8 => ?_) (fun c8 => ?_)
            · replace hf := if_f hf c8
              obtain ⟨x9, ex9, hf⟩ := nm_some hf
              refine lv_iinc (v := x9) (lv' := [(2, .int x9), (3, .int vJ3), (0, .ref ot), (1, .int v1)]) hx hb dX7_neighbour_59 hl (k := 3) rfl (by subst ex9; rfl) (by decide) rfl (fun ls hl => ?_)
              refine lv_goto (tgt := 2) hx hb dX7_neighbour_62 (by decide) ?_
              cases hf
              exact ih x9 _ (lv_sub hl [2, 3, 0] rfl) hoL1
            · replace hf := if_t hf c8
              cases hf
              exact KL1_1 vJ3 _ (it_out hoL1) (lv_sub hl [0] rfl)
        refine lv_icmp_ge (tgt := 26) hx hb dX7_neighbour_17 (by decide) (fun c10 => ?_) (fun c10 => ?_)
        · replace hf := if_t hf c10
          refine lv_iload_n hx hb dX7_neighbour_26 rfl (lv_at hl 1 rfl) ?_
          refine lv_iload_n hx hb dX7_neighbour_27 rfl (lv_at hl 2 rfl) ?_
          refine lv_iadd hx hb dX7_neighbour_28 ?_
          refine lv_aload_n hx hb dX7_neighbour_29 rfl (lv_at hl 0 rfl) ?_
          refine r_get X inw_X7 G 0 rfl rfl 0 (by decide) fl_X7_9 (v := .int (Vw_workers VW)) rfl dX7_neighbour_30 ?_
          refine lv_isub hx hb dX7_neighbour_33 ?_
          exact JJ3 ((v1 + stL1) - (Vw_workers VW)) _ (lv_sub hl [0, 1, 2] rfl) hf
        · replace hf := if_f hf c10
          refine lv_iload_n hx hb dX7_neighbour_20 rfl (lv_at hl 1 rfl) ?_
          refine lv_iload_n hx hb dX7_neighbour_21 rfl (lv_at hl 2 rfl) ?_
          refine lv_iadd hx hb dX7_neighbour_22 ?_
          refine lv_goto (tgt := 34) hx hb dX7_neighbour_23 (by decide) ?_
          exact JJ3 (v1 + stL1) _ (lv_sub hl [0, 1, 2] rfl) hf
  exact LL1 nL1 (1 : Int32) _ (lv_sub hl [1, 2, 0] rfl) hitL1
theorem mk_X7_neighbour : MV yX7_neighbour cX7_neighbour 4 (some .int) 1 := ⟨co_X7_neighbour, in_X7, im_X7_neighbour, se_X7_neighbour, by decide +kernel, by decide +kernel⟩
noncomputable def FX7_walk_14  : (Int32 × Int32 × VwT) → Option ((Int32 × Int32 × VwT) ⊕ (VwT)) := fun stL3 =>
  if (8 : Int32) ≤ stL3.2.1 then (
    some (.inr stL3.2.2)
  ) else (
    if stL3.1 = (-1 : Int32) then (
      some (.inr stL3.2.2)
    ) else (
      ix stL3.2.1 8 <|
      nm (sVw_path stL3.2.2 (upd (Vw_path stL3.2.2) (Int32.toNatClampNeg stL3.2.1) stL3.1)) fun VW7 =>
      nm (sVw_pathLength VW7 (stL3.2.1 + (1 : Int32))) fun VW8 =>
      (FX9_at 8 (Vw_waitsFor VW8) stL3.1).bind fun r9 =>
      (FX7_leastOf r9).bind fun r10 =>
      (FX7_pathPlace VW8 r10).bind fun r11 =>
      nm (sVw_ringLength VW8 ((Vw_pathLength VW8) - r11)) fun VW12 =>
      if (Vw_ringLength VW12) ≤ 0 then (
        nm (stL3.2.1 + 1) fun x14 =>
        some (.inl (r10, x14, VW12))
      ) else (
        nm (stL3.2.1 + 1) fun x15 =>
        some (.inl ((-1 : Int32), x15, VW12))
      )
    )
  )
noncomputable def FX7_walk (VW : VwT) (v1 : Int32) : Option (VwT) :=
  nm (sVw_pathLength VW (0 : Int32)) fun VW1 =>
  nm (sVw_ringLength VW1 (0 : Int32)) fun VW2 =>
  (itr FX7_walk_14 (v1, (0 : Int32), VW2)).bind fun uL3 =>
  some uL3
set_option maxHeartbeats 4000000 in
set_option maxRecDepth 100000 in
theorem ctX7_walk {l : Launch} {D : va_G} {k : Nat → ClassId} {Z : ZT} (hZ : ZOK Z) (ot : Nat) (aVW : Nat → Nat) {VW : VwT} {v1 : Int32} {q : VwT} (hf : FX7_walk VW v1 = some q) :
    CM l D k Z yX7_walk cX7_walk 5 none 2 41 [.ref ot, .int v1] none (kVw k ot aVW (VW)) (kVw k ot aVW (q)) := by
  refine CM.start hZ (by decide) (Nat.le_of_ble_eq_true rfl) ?_
  intro p e s m below meth c ls X hl G
  have hx := X.1
  have hb := X.2.1
  have hl : lv_has ls 5 [(0, .ref ot), (1, .int v1)] := hl
  unfold FX7_walk at hf
  refine lv_aload_n hx hb dX7_walk_0 rfl (lv_at hl 0 rfl) ?_
  refine lv_iconst (v := 0) hx hb dX7_walk_1 (by decide) ?_
  obtain ⟨VW1, eVW1, hf⟩ := nm_some hf
  refine r_put X inw_X7 tyX7 tyX7_ok nmX7 G 0 rfl rfl 11 (by decide) fl_X7_46 rfl rfl rfl (Nat.le_of_ble_eq_true rfl) (ws' := kVw k ot aVW (VW1)) (by subst eVW1; rfl) dX7_walk_2 (fun H locs G => ?_)
  refine lv_aload_n hx hb dX7_walk_5 rfl (lv_at hl 0 rfl) ?_
  refine lv_iconst (v := 0) hx hb dX7_walk_6 (by decide) ?_
  obtain ⟨VW2, eVW2, hf⟩ := nm_some hf
  refine r_put X inw_X7 tyX7 tyX7_ok nmX7 G 0 rfl rfl 12 (by decide) fl_X7_49 rfl rfl rfl (Nat.le_of_ble_eq_true rfl) (ws' := kVw k ot aVW (VW2)) (by subst eVW2; rfl) dX7_walk_7 (fun H locs G => ?_)
  refine lv_iload_n hx hb dX7_walk_10 rfl (lv_at hl 1 rfl) ?_
  refine lv_istore_n (lv' := [(2, .int v1), (0, .ref ot), (1, .int v1)]) hx hb dX7_walk_11 rfl hl (by decide) rfl (fun ls hl => ?_)
  refine lv_iconst (v := 0) hx hb dX7_walk_12 (by decide) ?_
  refine lv_istore_n (lv' := [(3, .int (0 : Int32)), (2, .int v1), (0, .ref ot), (1, .int v1)]) hx hb dX7_walk_13 rfl hl (by decide) rfl (fun ls hl => ?_)
  obtain ⟨exL3, hitL3, hfL3⟩ := bd_some hf
  obtain ⟨nL3, hitL3⟩ := itr_ex hitL3
  have KL3_0 : ∀ (u : VwT) (H : Heap) (locs : List Loc) (ls : Array Slot), exL3 = u → Wo D (wA (kVw k ot aVW (VW))) s.heap (kVw k ot aVW (u)) H locs → lv_has ls 5 [] → W p l e (rmz 2 41) s m [.ref ot, .int v1].toArray below meth c H locs 0 0 (MQ below (Qm D none (kVw k ot aVW (VW)) (kVw k ot aVW (q))) [.ref ot, .int v1].toArray s 0 0 (wA (kVw k ot aVW (VW)))) (F0 m 87 ls []) := by
    intro uL3 H locs ls hex G hl
    rw [hex] at hfL3
    have hf := hfL3
    cases hf
    exact e_mv X G dX7_walk_87
  have LL3 : ∀ (n : Nat) (stL3 : Int32 × Int32 × VwT) (H : Heap) (locs : List Loc) (ls : Array Slot), Wo D (wA (kVw k ot aVW (VW))) s.heap (kVw k ot aVW (stL3.2.2)) H locs → lv_has ls 5 [(0, .ref ot), (2, .int (stL3.1)), (3, .int (stL3.2.1))] → it FX7_walk_14 n stL3 = some exL3 → W p l e (rmz 2 41) s m [.ref ot, .int v1].toArray below meth c H locs 0 0 (MQ below (Qm D none (kVw k ot aVW (VW)) (kVw k ot aVW (q))) [.ref ot, .int v1].toArray s 0 0 (wA (kVw k ot aVW (VW)))) (F0 m 14 ls []) := by
    intro n
    induction n with
    | zero =>
      intro stL3 H locs ls G hl hit
      exact (it_zero hit).elim
    | succ n ih =>
      intro stL3 H locs ls G hl hit
      obtain ⟨oL3, hf, hoL3⟩ := it_bd hit
      unfold FX7_walk_14 at hf
      refine lv_iload_n hx hb dX7_walk_14 rfl (lv_at hl 2 rfl) ?_
      refine lv_bipush (v := 8) hx hb dX7_walk_15 (by decide) ?_
      refine lv_icmp_ge (tgt := 87) hx hb dX7_walk_17 (by decide) (fun c4 => ?_) (fun c4 => ?_)
      · replace hf := if_t hf c4
        cases hf
        exact KL3_0 stL3.2.2 _ _ _ (it_out hoL3) G (lv_sub hl [] rfl)
      · replace hf := if_f hf c4
        refine lv_iload_n hx hb dX7_walk_20 rfl (lv_at hl 1 rfl) ?_
        refine lv_iconst (v := -1) hx hb dX7_walk_21 (by decide) ?_
        refine lv_icmp_eq (tgt := 87) hx hb dX7_walk_22 (by decide) (fun c5 => ?_) (fun c5 => ?_)
        · replace hf := if_t hf c5
          cases hf
          exact KL3_0 stL3.2.2 _ _ _ (it_out hoL3) G (lv_sub hl [] rfl)
        · replace hf := if_f hf c5
          refine lv_aload_n hx hb dX7_walk_25 rfl (lv_at hl 0 rfl) ?_
          refine r_get X inw_X7 G 0 rfl rfl 10 (by decide) fl_X7_43 (v := .ref (aVW 2)) rfl dX7_walk_26 ?_
          refine lv_iload_n hx hb dX7_walk_29 rfl (lv_at hl 2 rfl) ?_
          refine lv_iload_n hx hb dX7_walk_30 rfl (lv_at hl 1 rfl) ?_
          obtain ⟨h6, hf⟩ := ix_some hf
          obtain ⟨VW7, eVW7, hf⟩ := nm_some hf
          refine r_iast X G 3 rfl h6 (ws' := kVw k ot aVW (VW7)) (by subst eVW7; rfl) dX7_walk_31 (fun H locs G => ?_)
          refine lv_aload_n hx hb dX7_walk_32 rfl (lv_at hl 0 rfl) ?_
          refine lv_iload_n hx hb dX7_walk_33 rfl (lv_at hl 2 rfl) ?_
          refine lv_iconst (v := 1) hx hb dX7_walk_34 (by decide) ?_
          refine lv_iadd hx hb dX7_walk_35 ?_
          obtain ⟨VW8, eVW8, hf⟩ := nm_some hf
          refine r_put X inw_X7 tyX7 tyX7_ok nmX7 G 0 rfl rfl 11 (by decide) fl_X7_46 rfl rfl rfl (Nat.le_of_ble_eq_true rfl) (ws' := kVw k ot aVW (VW8)) (by subst eVW8; rfl) dX7_walk_36 (fun H locs G => ?_)
          refine lv_aload_n hx hb dX7_walk_39 rfl (lv_at hl 0 rfl) ?_
          refine r_get X inw_X7 G 0 rfl rfl 9 (by decide) fl_X7_40 (v := .ref (aVW 1)) rfl dX7_walk_40 ?_
          refine lv_iload_n hx hb dX7_walk_43 rfl (lv_at hl 1 rfl) ?_
          obtain ⟨r9, hcr9, hf⟩ := bd_some hf
          refine p_R (st1 := [.int r9]) (run_N (rest := []) X (ctX9_at hZ (aVW 1) hcr9) mk_X9_at mn_X7_88 ⟨(Nat.le_of_ble_eq_true rfl), (Nat.le_of_ble_eq_true rfl)⟩ G [2] rfl rfl rfl hl.1 rfl (Nat.le_of_ble_eq_true rfl) dX7_walk_44 ⟨Nat.zero_le _, Nat.zero_le _⟩) rfl ?_
          obtain ⟨r10, hcr10, hf⟩ := bd_some hf
          refine p_R (st1 := [.int r10]) (run_S (rest := []) X (ctX7_leastOf hZ hcr10) mk_X7_leastOf ml_X7_117 ⟨(Nat.le_of_ble_eq_true rfl), (Nat.le_of_ble_eq_true rfl)⟩ G [] rfl rfl rfl hl.1 rfl (Nat.le_of_ble_eq_true rfl) dX7_walk_47 ⟨Nat.zero_le _, Nat.zero_le _⟩) rfl ?_
          refine lv_istore (lv' := [(4, .int r10), (0, .ref ot), (2, .int (stL3.1)), (3, .int (stL3.2.1))]) hx hb dX7_walk_50 hl (by decide) rfl (fun ls hl => ?_)
          refine lv_aload_n hx hb dX7_walk_52 rfl (lv_at hl 1 rfl) ?_
          refine lv_aload_n hx hb dX7_walk_53 rfl (lv_at hl 1 rfl) ?_
          refine r_get X inw_X7 G 0 rfl rfl 11 (by decide) fl_X7_46 (v := .int (Vw_pathLength VW8)) rfl dX7_walk_54 ?_
          refine lv_aload_n hx hb dX7_walk_57 rfl (lv_at hl 1 rfl) ?_
          refine lv_iload hx hb dX7_walk_58 (lv_at hl 0 rfl) ?_
          obtain ⟨r11, hcr11, hf⟩ := bd_some hf
          refine p_R (st1 := [.int r11, .int (Vw_pathLength VW8), .ref ot]) (run_V (rest := [.int (Vw_pathLength VW8), .ref ot]) X (ctX7_pathPlace hZ ot aVW hcr11) mk_X7_pathPlace ml_X7_120 ⟨(Nat.le_of_ble_eq_true rfl), (Nat.le_of_ble_eq_true rfl)⟩ G [0, 1, 2, 3] rfl rfl 0 rfl rfl rfl hl.1 rfl (Nat.le_of_ble_eq_true rfl) dX7_walk_60 ⟨Nat.zero_le _, Nat.zero_le _⟩) rfl ?_
          refine lv_isub hx hb dX7_walk_63 ?_
          obtain ⟨VW12, eVW12, hf⟩ := nm_some hf
          refine r_put X inw_X7 tyX7 tyX7_ok nmX7 G 0 rfl rfl 12 (by decide) fl_X7_49 rfl rfl rfl (Nat.le_of_ble_eq_true rfl) (ws' := kVw k ot aVW (VW12)) (by subst eVW12; rfl) dX7_walk_64 (fun H locs G => ?_)
          refine lv_aload_n hx hb dX7_walk_67 rfl (lv_at hl 1 rfl) ?_
          refine r_get X inw_X7 G 0 rfl rfl 12 (by decide) fl_X7_49 (v := .int (Vw_ringLength VW12)) rfl dX7_walk_68 ?_
          refine lv_if_le (tgt := 78) hx hb dX7_walk_71 (by decide) (fun c13 => ?_) (fun c13 => ?_)
          · replace hf := if_t hf c13
            refine lv_iload hx hb dX7_walk_78 (lv_at hl 0 rfl) ?_
            refine lv_istore_n (lv' := [(2, .int r10), (4, .int r10), (0, .ref ot), (3, .int (stL3.2.1))]) hx hb dX7_walk_80 rfl hl (by decide) rfl (fun ls hl => ?_)
            obtain ⟨x14, ex14, hf⟩ := nm_some hf
            refine lv_iinc (v := x14) (lv' := [(3, .int x14), (2, .int r10), (4, .int r10), (0, .ref ot)]) hx hb dX7_walk_81 hl (k := 3) rfl (by subst ex14; rfl) (by decide) rfl (fun ls hl => ?_)
            refine lv_goto (tgt := 14) hx hb dX7_walk_84 (by decide) ?_
            cases hf
            exact ih (r10, x14, VW12) _ _ _ G (lv_sub hl [3, 1, 0] rfl) hoL3
          · replace hf := if_f hf c13
            refine lv_iconst (v := -1) hx hb dX7_walk_74 (by decide) ?_
            refine lv_goto (tgt := 80) hx hb dX7_walk_75 (by decide) ?_
            refine lv_istore_n (lv' := [(2, .int (-1 : Int32)), (4, .int r10), (0, .ref ot), (3, .int (stL3.2.1))]) hx hb dX7_walk_80 rfl hl (by decide) rfl (fun ls hl => ?_)
            obtain ⟨x15, ex15, hf⟩ := nm_some hf
            refine lv_iinc (v := x15) (lv' := [(3, .int x15), (2, .int (-1 : Int32)), (4, .int r10), (0, .ref ot)]) hx hb dX7_walk_81 hl (k := 3) rfl (by subst ex15; rfl) (by decide) rfl (fun ls hl => ?_)
            refine lv_goto (tgt := 14) hx hb dX7_walk_84 (by decide) ?_
            cases hf
            exact ih ((-1 : Int32), x15, VW12) _ _ _ G (lv_sub hl [3, 1, 0] rfl) hoL3
  exact LL3 nL3 (v1, (0 : Int32), VW2) _ _ _ G (lv_sub hl [2, 1, 0] rfl) hitL3
theorem mk_X7_walk : MV yX7_walk cX7_walk 5 none 1 := ⟨co_X7_walk, in_X7, im_X7_walk, se_X7_walk, by decide +kernel, by decide +kernel⟩
