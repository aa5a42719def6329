noncomputable def FX10_sortOf_2 (v1 : Int64) : Int32 → Option ((Int32) ⊕ ((Unit) ⊕ (Int32))) := fun stL1 =>
  if (9 : Int32) < stL1 then (
    some (.inr (.inl ()))
  ) else (
    ix stL1 10 <|
    if (lg_cmp (SOf (Int32.toNatClampNeg stL1)) v1) = 0 then (
      some (.inr (.inr (stL1)))
    ) else (
      nm (stL1 + 1) fun x5 =>
      some (.inl x5)
    )
  )
noncomputable def FX10_sortOf (v1 : Int64) : Option (Int32) :=
  (itr (FX10_sortOf_2 v1) (0 : Int32)).bind fun exL1 =>
  Sum.elim (fun uL1 =>
    some (-1 : Int32)
  )
  (fun uL1 =>
    some uL1
  ) exL1
set_option maxHeartbeats 4000000 in
set_option maxRecDepth 100000 in
theorem ctX10_sortOf {l : Launch} {D : va_G} {k : Nat → ClassId} (t : Nat → Nat) (ot : Nat) {v1 : Int64} {q : Int32} (hf : FX10_sortOf v1 = some q) :
    CR l D k (SZ t) yX10_sortOf cX10_sortOf 4 (some .int) 0 0 [.ref ot, .long (v1)] (some (.int q)) ([]) := by
  refine CR.start (SZ_ok t) (by decide) (Nat.le_of_ble_eq_true rfl) ?_
  intro p e s m below meth c ls X hl G
  have hx := X.1
  have hb := X.2.1
  have hz := X.2.2.2.2.2.2.2.2.1
  have hl : lv_has ls 4 [(0, .ref ot), (1, .long (v1))] := hl
  unfold FX10_sortOf at hf
  refine lv_iconst (v := 0) hx hb dX10_sortOf_0 (by decide) ?_
  refine lv_istore_n (lv' := [(3, .int (0 : Int32)), (0, .ref ot), (1, .long (v1))]) hx hb dX10_sortOf_1 rfl hl (by decide) rfl (fun ls hl => ?_)
  obtain ⟨exL1, hitL1, hfL1⟩ := bd_some hf
  obtain ⟨nL1, hitL1⟩ := itr_ex hitL1
  have KL1_0 : ∀ (u : Unit) (ls : Array Slot), exL1 = Sum.inl u → lv_has ls 4 [] → W p l e (rmz 0 0) s m [.ref ot, .long (v1)].toArray below meth c s.heap [] 0 0 (MQ below (Qr (some (.int q))) [.ref ot, .long (v1)].toArray s 0 0 (fun _ => False)) (F0 m 26 ls []) := by
    intro uL1 ls hex hl
    rw [hex] at hfL1
    have hf := hfL1
    replace hf := sl_l hf
    refine lv_iconst (v := -1) hx hb dX10_sortOf_26 (by decide) ?_
    cases hf
    exact e_ri X dX10_sortOf_27
  have KL1_1 : ∀ (u : Int32) (ls : Array Slot), exL1 = Sum.inr (u) → lv_has ls 4 [(3, .int u)] → W p l e (rmz 0 0) s m [.ref ot, .long (v1)].toArray below meth c s.heap [] 0 0 (MQ below (Qr (some (.int q))) [.ref ot, .long (v1)].toArray s 0 0 (fun _ => False)) (F0 m 18 ls []) := by
    intro uL1 ls hex hl
    rw [hex] at hfL1
    have hf := hfL1
    replace hf := sl_r hf
    refine lv_iload_n hx hb dX10_sortOf_18 rfl (lv_at hl 0 rfl) ?_
    cases hf
    exact e_ri X dX10_sortOf_19
  have LL1 : ∀ (n : Nat) (stL1 : Int32) (ls : Array Slot), lv_has ls 4 [(1, .long (v1)), (3, .int stL1)] → it (FX10_sortOf_2 v1) n stL1 = some exL1 → W p l e (rmz 0 0) s m [.ref ot, .long (v1)].toArray below meth c s.heap [] 0 0 (MQ below (Qr (some (.int q))) [.ref ot, .long (v1)].toArray s 0 0 (fun _ => False)) (F0 m 2 ls []) := by
    intro n
    induction n with
    | zero =>
      intro stL1 ls hl hit
      exact (it_zero hit).elim
    | succ n ih =>
      intro stL1 ls hl hit
      obtain ⟨oL1, hf, hoL1⟩ := it_bd hit
      unfold FX10_sortOf_2 at hf
      refine lv_iload_n hx hb dX10_sortOf_2 rfl (lv_at hl 1 rfl) ?_
      refine lv_bipush (v := 9) hx hb dX10_sortOf_3 (by decide) ?_
      refine lv_icmp_gt (tgt := 26) hx hb dX10_sortOf_5 (by decide) (fun c2 => ?_) (fun c2 => ?_)
      · replace hf := if_t hf c2
        cases hf
        exact KL1_0 () _ (it_out hoL1) (lv_sub hl [] rfl)
      · replace hf := if_f hf c2
        refine r_gets X G hz.2.2.1.1 sf_X10_244 dX10_sortOf_8 ?_
        refine lv_iload_n hx hb dX10_sortOf_11 rfl (lv_at hl 1 rfl) ?_
        obtain ⟨h3, hf⟩ := ix_some hf
        refine va_tl hx hb hz.2.2.1.2 G.2.2 h3 rfl dX10_sortOf_12 ?_
        refine lv_lload_n hx hb dX10_sortOf_13 rfl (lv_at hl 0 rfl) ?_
        refine W.lcmp hx hb dX10_sortOf_14 ?_
        refine lv_if_ne (tgt := 20) hx hb dX10_sortOf_15 (by decide) (fun c4 => ?_) (fun c4 => ?_)
        · replace hf := if_f hf c4
          obtain ⟨x5, ex5, hf⟩ := nm_some hf
          refine lv_iinc (v := x5) (lv' := [(3, .int x5), (1, .long (v1))]) hx hb dX10_sortOf_20 hl (k := 1) rfl (by subst ex5; rfl) (by decide) rfl (fun ls hl => ?_)
          refine lv_goto (tgt := 2) hx hb dX10_sortOf_23 (by decide) ?_
          cases hf
          exact ih x5 _ (lv_sub hl [1, 0] rfl) hoL1
        · replace hf := if_t hf c4
          cases hf
          exact KL1_1 stL1 _ (it_out hoL1) (lv_sub hl [1] rfl)
  exact LL1 nL1 (0 : Int32) _ (lv_sub hl [2, 0] rfl) hitL1
theorem mk_X10_sortOf : MV yX10_sortOf cX10_sortOf 4 (some .int) 1 := ⟨co_X10_sortOf, in_X10, im_X10_sortOf, se_X10_sortOf, by decide +kernel, by decide +kernel⟩
noncomputable def FX10_readsWorker_j78 (x2 : Int32) (stL4 : Int32 × MoT) (vJ5 : Int32) (vJ9 : MoT) : Option ((Int32 × MoT) ⊕ ((MoT) ⊕ (Int32 × MoT))) :=
  (FX10_takes vJ9).bind fun r10 =>
  (FX10_numberOf r10 vJ5 x2).bind fun r11 =>
  if (12 : Int32) ≤ stL4.1 then (
    (FX10_hasSign r11.2 (44 : Int32)).bind fun r13 =>
    if (bI r13.1) = 0 then (
      some (.inr (.inr ((stL4.1, r13.2))))
    ) else (
      some (.inl (stL4.1, r13.2))
    )
  ) else (
    if (8 : Int32) ≤ x2 then (
      (FX10_hasSign r11.2 (44 : Int32)).bind fun r16 =>
      if (bI r16.1) = 0 then (
        some (.inr (.inr ((stL4.1, r16.2))))
      ) else (
        some (.inl (stL4.1, r16.2))
      )
    ) else (
      ix (((1437 : Int32) + ((12 : Int32) * x2)) + stL4.1) 9519 <|
      nm (sMo_all r11.2 (upd (Mo_all r11.2) (Int32.toNatClampNeg (((1437 : Int32) + ((12 : Int32) * x2)) + stL4.1)) vJ5)) fun MO19 =>
      ix (((1533 : Int32) + ((12 : Int32) * x2)) + stL4.1) 9519 <|
      nm (sMo_all MO19 (upd (Mo_all MO19) (Int32.toNatClampNeg (((1533 : Int32) + ((12 : Int32) * x2)) + stL4.1)) r11.1)) fun MO21 =>
      nm (stL4.1 + 1) fun x22 =>
      (FX10_hasSign MO21 (44 : Int32)).bind fun r23 =>
      if (bI r23.1) = 0 then (
        some (.inr (.inr ((x22, r23.2))))
      ) else (
        some (.inl (x22, r23.2))
      )
    )
  )
noncomputable def FX10_readsWorker_j55 (x2 : Int32) (stL4 : Int32 × MoT) (vJ5 : Int32) (vJ6 : MoT) : Option ((Int32 × MoT) ⊕ ((MoT) ⊕ (Int32 × MoT))) :=
  (FX10_isGood vJ6).bind fun r7 =>
  if (bI r7) = 0 then (
    some (.inr (.inl vJ6))
  ) else (
    if stL4.1 = (12 : Int32) then (
      (FX10_also vJ6 (3 : Int32) (Mo_tokenAt vJ6)).bind fun r26 =>
      FX10_readsWorker_j78 x2 stL4 vJ5 r26
    ) else (
      FX10_readsWorker_j78 x2 stL4 vJ5 vJ6
    )
  )
noncomputable def FX10_readsWorker_j43 (x2 : Int32) (stL4 : Int32 × MoT) (vJ5 : Int32) : Option ((Int32 × MoT) ⊕ ((MoT) ⊕ (Int32 × MoT))) :=
  if vJ5 = (-1 : Int32) then (
    (FX10_wrong stL4.2).bind fun r28 =>
    FX10_readsWorker_j55 x2 stL4 vJ5 r28
  ) else (
    FX10_readsWorker_j55 x2 stL4 vJ5 stL4.2
  )
noncomputable def FX10_readsWorker_23 (x2 : Int32) : (Int32 × MoT) → Option ((Int32 × MoT) ⊕ ((MoT) ⊕ (Int32 × MoT))) := fun stL4 =>
  if (Mo_token stL4.2) = (1 : Int32) then (
    (FX10_sortOf (Mo_value stL4.2)).bind fun r30 =>
    FX10_readsWorker_j43 x2 stL4 r30
  ) else (
    FX10_readsWorker_j43 x2 stL4 (-1 : Int32)
  )
noncomputable def FX10_readsWorker_j21 (x2 : Int32) (vJ3 : MoT) : Option (MoT) :=
  (itr (FX10_readsWorker_23 x2) ((0 : Int32), vJ3)).bind fun exL4 =>
  Sum.elim (fun uL4 =>
    some uL4
  )
  (fun uL4 =>
    if x2 = (8 : Int32) then (
      some uL4.2
    ) else (
      ix ((1429 : Int32) + x2) 9519 <|
      nm (sMo_all uL4.2 (upd (Mo_all uL4.2) (Int32.toNatClampNeg ((1429 : Int32) + x2)) uL4.1)) fun MO33 =>
      ix (1422 : Int32) 9519 <|
      ix (1422 : Int32) 9519 <|
      nm (sMo_all MO33 (upd (Mo_all MO33) (Int32.toNatClampNeg (1422 : Int32)) ((Mo_all MO33 (Int32.toNatClampNeg (1422 : Int32))) + (1 : Int32)))) fun MO36 =>
      some MO36
    )
  ) exL4
noncomputable def FX10_readsWorker (MO : MoT) (v1 : Int32) : Option (MoT) :=
  ix (1422 : Int32) 9519 <|
  nm (Mo_all MO (Int32.toNatClampNeg (1422 : Int32))) fun x2 =>
  if x2 = (8 : Int32) then (
    (FX10_also MO (4 : Int32) v1).bind fun r38 =>
    FX10_readsWorker_j21 x2 r38
  ) else (
    FX10_readsWorker_j21 x2 MO
  )
set_option maxHeartbeats 4000000 in
set_option maxRecDepth 100000 in
theorem ctX10_readsWorker {l : Launch} {D : va_G} {k : Nat → ClassId} (t : Nat → Nat) (ot : Nat) (aMO : Nat → Nat) {MO : MoT} {v1 : Int32} {q : MoT} (hf : FX10_readsWorker MO v1 = some q) :
    CM l D k (SZ t) yX10_readsWorker cX10_readsWorker 6 none 4 91 [.ref ot, .int v1] none (kMo k ot aMO (MO)) (kMo k ot aMO (q)) := by
  refine CM.start (SZ_ok t) (by decide) (Nat.le_of_ble_eq_true rfl) ?_
  intro p e s m below meth c ls X hl G
  have hx := X.1
  have hb := X.2.1
  have hz := X.2.2.2.2.2.2.2.2.1
  have hl : lv_has ls 6 [(0, .ref ot), (1, .int v1)] := hl
  unfold FX10_readsWorker at hf
  refine lv_aload_n hx hb dX10_readsWorker_0 rfl (lv_at hl 0 rfl) ?_
  refine r_get X inw_X10 G 0 rfl rfl 0 (by decide) fl_X10_7 (v := .ref (aMO 0)) rfl dX10_readsWorker_1 ?_
  refine lv_sipush (v := 1422) hx hb dX10_readsWorker_4 (by decide) ?_
  obtain ⟨h1, hf⟩ := ix_some hf
  refine r_iald X G 1 rfl h1 dX10_readsWorker_7 ?_
  obtain ⟨x2, ex2, hf⟩ := nm_some hf
  refine r_top (congrArg Value.int ex2) ?_
  refine lv_istore_n (lv' := [(2, .int x2), (0, .ref ot), (1, .int v1)]) hx hb dX10_readsWorker_8 rfl hl (by decide) rfl (fun ls hl => ?_)
  refine lv_iload_n hx hb dX10_readsWorker_9 rfl (lv_at hl 0 rfl) ?_
  refine lv_bipush (v := 8) hx hb dX10_readsWorker_10 (by decide) ?_
  have JJ3 : ∀ (vJ3 : MoT) (H : Heap) (locs : List Loc) (ls : Array Slot), Wo D (wA (kMo k ot aMO (MO))) s.heap (kMo k ot aMO (vJ3)) H locs → lv_has ls 6 [(0, .ref ot), (2, .int x2)] → FX10_readsWorker_j21 x2 vJ3 = some q → W p l e (rmz 4 91) s m [.ref ot, .int v1].toArray below meth c H locs 0 0 (MQ below (Qm D none (kMo k ot aMO (MO)) (kMo k ot aMO (q))) [.ref ot, .int v1].toArray s 0 0 (wA (kMo k ot aMO (MO)))) (F0 m 21 ls []) := by
    intro vJ3 H locs ls G hl hf
    unfold FX10_readsWorker_j21 at hf
    refine lv_iconst (v := 0) hx hb dX10_readsWorker_21 (by decide) ?_
    refine lv_istore_n (lv' := [(3, .int (0 : Int32)), (0, .ref ot), (2, .int x2)]) hx hb dX10_readsWorker_22 rfl hl (by decide) rfl (fun ls hl => ?_)
    obtain ⟨exL4, hitL4, hfL4⟩ := bd_some hf
    obtain ⟨nL4, hitL4⟩ := itr_ex hitL4
    have KL4_0 : ∀ (u : MoT) (H : Heap) (locs : List Loc) (ls : Array Slot), exL4 = Sum.inl u → Wo D (wA (kMo k ot aMO (MO))) s.heap (kMo k ot aMO (u)) H locs → lv_has ls 6 [] → W p l e (rmz 4 91) s m [.ref ot, .int v1].toArray below meth c H locs 0 0 (MQ below (Qm D none (kMo k ot aMO (MO)) (kMo k ot aMO (q))) [.ref ot, .int v1].toArray s 0 0 (wA (kMo k ot aMO (MO)))) (F0 m 62 ls []) := by
      intro uL4 H locs ls hex G hl
      rw [hex] at hfL4
      have hf := hfL4
      replace hf := sl_l hf
      cases hf
      exact e_mv X G dX10_readsWorker_62
    have KL4_1 : ∀ (u : Int32 × MoT) (H : Heap) (locs : List Loc) (ls : Array Slot), exL4 = Sum.inr (u) → Wo D (wA (kMo k ot aMO (MO))) s.heap (kMo k ot aMO (u.2)) H locs → lv_has ls 6 [(0, .ref ot), (2, .int x2), (3, .int (u.1))] → W p l e (rmz 4 91) s m [.ref ot, .int v1].toArray below meth c H locs 0 0 (MQ below (Qm D none (kMo k ot aMO (MO)) (kMo k ot aMO (q))) [.ref ot, .int v1].toArray s 0 0 (wA (kMo k ot aMO (MO)))) (F0 m 149 ls []) := by
      intro uL4 H locs ls hex G hl
      rw [hex] at hfL4
      have hf := hfL4
      replace hf := sl_r hf
      refine lv_iload_n hx hb dX10_readsWorker_149 rfl (lv_at hl 1 rfl) ?_
      refine lv_bipush (v := 8) hx hb dX10_readsWorker_150 (by decide) ?_
      refine lv_icmp_ne (tgt := 156) hx hb dX10_readsWorker_152 (by decide) (fun c31 => ?_) (fun c31 => ?_)
      · replace hf := if_f hf c31
        refine lv_aload_n hx hb dX10_readsWorker_156 rfl (lv_at hl 0 rfl) ?_
        refine r_get X inw_X10 G 0 rfl rfl 0 (by decide) fl_X10_7 (v := .ref (aMO 0)) rfl dX10_readsWorker_157 ?_
        refine lv_sipush (v := 1429) hx hb dX10_readsWorker_160 (by decide) ?_
        refine lv_iload_n hx hb dX10_readsWorker_163 rfl (lv_at hl 1 rfl) ?_
        refine lv_iadd hx hb dX10_readsWorker_164 ?_
        refine lv_iload_n hx hb dX10_readsWorker_165 rfl (lv_at hl 2 rfl) ?_
        obtain ⟨h32, hf⟩ := ix_some hf
        obtain ⟨MO33, eMO33, hf⟩ := nm_some hf
        refine r_iast X G 1 rfl h32 (ws' := kMo k ot aMO (MO33)) (by subst eMO33; rfl) dX10_readsWorker_166 (fun H locs G => ?_)
        refine lv_aload_n hx hb dX10_readsWorker_167 rfl (lv_at hl 0 rfl) ?_
        refine r_get X inw_X10 G 0 rfl rfl 0 (by decide) fl_X10_7 (v := .ref (aMO 0)) rfl dX10_readsWorker_168 ?_
        refine lv_sipush (v := 1422) hx hb dX10_readsWorker_171 (by decide) ?_
        refine lv_dup2_11 hx hb dX10_readsWorker_174 rfl rfl ?_
        obtain ⟨h34, hf⟩ := ix_some hf
        refine r_iald X G 1 rfl h34 dX10_readsWorker_175 ?_
        refine lv_iconst (v := 1) hx hb dX10_readsWorker_176 (by decide) ?_
        refine lv_iadd hx hb dX10_readsWorker_177 ?_
        obtain ⟨h35, hf⟩ := ix_some hf
        obtain ⟨MO36, eMO36, hf⟩ := nm_some hf
        refine r_iast X G 1 rfl h35 (ws' := kMo k ot aMO (MO36)) (by subst eMO36; rfl) dX10_readsWorker_178 (fun H locs G => ?_)
        cases hf
        exact e_mv X G dX10_readsWorker_179
      · replace hf := if_t hf c31
        cases hf
        exact e_mv X G dX10_readsWorker_155
    have LL4 : ∀ (n : Nat) (stL4 : Int32 × MoT) (H : Heap) (locs : List Loc) (ls : Array Slot), Wo D (wA (kMo k ot aMO (MO))) s.heap (kMo k ot aMO (stL4.2)) H locs → lv_has ls 6 [(0, .ref ot), (2, .int x2), (3, .int (stL4.1))] → it (FX10_readsWorker_23 x2) n stL4 = some exL4 → W p l e (rmz 4 91) s m [.ref ot, .int v1].toArray below meth c H locs 0 0 (MQ below (Qm D none (kMo k ot aMO (MO)) (kMo k ot aMO (q))) [.ref ot, .int v1].toArray s 0 0 (wA (kMo k ot aMO (MO)))) (F0 m 23 ls []) := by
      intro n
      induction n with
      | zero =>
        intro stL4 H locs ls G hl hit
        exact (it_zero hit).elim
      | succ n ih =>
        intro stL4 H locs ls G hl hit
        obtain ⟨oL4, hf, hoL4⟩ := it_bd hit
        unfold FX10_readsWorker_23 at hf
        refine lv_aload_n hx hb dX10_readsWorker_23 rfl (lv_at hl 0 rfl) ?_
        refine r_get X inw_X10 G 0 rfl rfl 13 (by decide) fl_X10_205 (v := .int (Mo_token stL4.2)) rfl dX10_readsWorker_24 ?_
        refine lv_iconst (v := 1) hx hb dX10_readsWorker_27 (by decide) ?_
        have JJ5 : ∀ (vJ5 : Int32) (H : Heap) (locs : List Loc) (ls : Array Slot), Wo D (wA (kMo k ot aMO (MO))) s.heap (kMo k ot aMO (stL4.2)) H locs → lv_has ls 6 [(0, .ref ot), (2, .int x2), (3, .int (stL4.1))] → FX10_readsWorker_j43 x2 stL4 vJ5 = some oL4 → W p l e (rmz 4 91) s m [.ref ot, .int v1].toArray below meth c H locs 0 0 (MQ below (Qm D none (kMo k ot aMO (MO)) (kMo k ot aMO (q))) [.ref ot, .int v1].toArray s 0 0 (wA (kMo k ot aMO (MO)))) (F0 m 43 ls [.int vJ5]) := by
          intro vJ5 H locs ls G hl hf
          unfold FX10_readsWorker_j43 at hf
          refine lv_istore (lv' := [(4, .int vJ5), (0, .ref ot), (2, .int x2), (3, .int (stL4.1))]) hx hb dX10_readsWorker_43 hl (by decide) rfl (fun ls hl => ?_)
          refine lv_iload hx hb dX10_readsWorker_45 (lv_at hl 0 rfl) ?_
          refine lv_iconst (v := -1) hx hb dX10_readsWorker_47 (by decide) ?_
          have JJ6 : ∀ (vJ6 : MoT) (H : Heap) (locs : List Loc) (ls : Array Slot), Wo D (wA (kMo k ot aMO (MO))) s.heap (kMo k ot aMO (vJ6)) H locs → lv_has ls 6 [(0, .ref ot), (2, .int x2), (3, .int (stL4.1)), (4, .int vJ5)] → FX10_readsWorker_j55 x2 stL4 vJ5 vJ6 = some oL4 → W p l e (rmz 4 91) s m [.ref ot, .int v1].toArray below meth c H locs 0 0 (MQ below (Qm D none (kMo k ot aMO (MO)) (kMo k ot aMO (q))) [.ref ot, .int v1].toArray s 0 0 (wA (kMo k ot aMO (MO)))) (F0 m 55 ls []) := by
            intro vJ6 H locs ls G hl hf
            unfold FX10_readsWorker_j55 at hf
            refine lv_aload_n hx hb dX10_readsWorker_55 rfl (lv_at hl 0 rfl) ?_
            obtain ⟨r7, hcr7, hf⟩ := bd_some hf
            refine p_R (st1 := [.int (bI r7)]) (run_V (rest := []) X (ctX10_isGood (SZ_ok t) ot aMO hcr7) mk_X10_isGood ml_X10_230 ⟨(Nat.le_of_ble_eq_true rfl), (Nat.le_of_ble_eq_true rfl)⟩ G [0, 1, 2, 3, 4, 5, 6, 7] rfl rfl 0 rfl rfl rfl hl.1 rfl (Nat.le_of_ble_eq_true rfl) dX10_readsWorker_56 ⟨Nat.zero_le _, Nat.zero_le _⟩) rfl ?_
            refine lv_if_ne (tgt := 63) hx hb dX10_readsWorker_59 (by decide) (fun c8 => ?_) (fun c8 => ?_)
            · replace hf := if_f hf c8
              refine lv_iload_n hx hb dX10_readsWorker_63 rfl (lv_at hl 2 rfl) ?_
              refine lv_bipush (v := 12) hx hb dX10_readsWorker_64 (by decide) ?_
              have JJ9 : ∀ (vJ9 : MoT) (H : Heap) (locs : List Loc) (ls : Array Slot), Wo D (wA (kMo k ot aMO (MO))) s.heap (kMo k ot aMO (vJ9)) H locs → lv_has ls 6 [(0, .ref ot), (2, .int x2), (3, .int (stL4.1)), (4, .int vJ5)] → FX10_readsWorker_j78 x2 stL4 vJ5 vJ9 = some oL4 → W p l e (rmz 4 91) s m [.ref ot, .int v1].toArray below meth c H locs 0 0 (MQ below (Qm D none (kMo k ot aMO (MO)) (kMo k ot aMO (q))) [.ref ot, .int v1].toArray s 0 0 (wA (kMo k ot aMO (MO)))) (F0 m 78 ls []) := by
                intro vJ9 H locs ls G hl hf
                unfold FX10_readsWorker_j78 at hf
                refine lv_aload_n hx hb dX10_readsWorker_78 rfl (lv_at hl 0 rfl) ?_
                obtain ⟨r10, hcr10, hf⟩ := bd_some hf
                refine p_N (st1 := []) (wr := []) (ws' := kMo k ot aMO (r10)) (run_V (rest := []) X (ctX10_takes (SZ_ok t) ot aMO hcr10) mk_X10_takes ml_X10_234 ⟨(Nat.le_of_ble_eq_true rfl), (Nat.le_of_ble_eq_true rfl)⟩ G [0, 1, 2, 3, 4, 5, 6, 7] rfl rfl 0 rfl rfl rfl hl.1 rfl (Nat.le_of_ble_eq_true rfl) dX10_readsWorker_79 ⟨Nat.zero_le _, Nat.zero_le _⟩) rfl G [0, 1, 2, 3, 4, 5, 6, 7] [] 8 rfl rfl rfl rfl rfl (by decide) (by decide) rfl (fun H locs G => ?_)
                refine lv_aload_n hx hb dX10_readsWorker_82 rfl (lv_at hl 0 rfl) ?_
                refine lv_iload hx hb dX10_readsWorker_83 (lv_at hl 3 rfl) ?_
                refine lv_iload_n hx hb dX10_readsWorker_85 rfl (lv_at hl 1 rfl) ?_
                obtain ⟨r11, hcr11, hf⟩ := bd_some hf
                refine p_N (st1 := [.int (r11.1)]) (wr := []) (ws' := kMo k ot aMO (r11.2)) (run_V (rest := []) X (ctX10_numberOf (SZ_ok t) ot aMO hcr11) mk_X10_numberOf ml_X10_260 ⟨(Nat.le_of_ble_eq_true rfl), (Nat.le_of_ble_eq_true rfl)⟩ G [0, 1, 2, 3, 4, 5, 6, 7] rfl rfl 0 rfl rfl rfl hl.1 rfl (Nat.le_of_ble_eq_true rfl) dX10_readsWorker_86 ⟨Nat.zero_le _, Nat.zero_le _⟩) rfl G [0, 1, 2, 3, 4, 5, 6, 7] [] 8 rfl rfl rfl rfl rfl (by decide) (by decide) rfl (fun H locs G => ?_)
                refine lv_istore (lv' := [(5, .int (r11.1)), (0, .ref ot), (2, .int x2), (3, .int (stL4.1)), (4, .int vJ5)]) hx hb dX10_readsWorker_89 hl (by decide) rfl (fun ls hl => ?_)
                refine lv_iload_n hx hb dX10_readsWorker_91 rfl (lv_at hl 3 rfl) ?_
                refine lv_bipush (v := 12) hx hb dX10_readsWorker_92 (by decide) ?_
                refine lv_icmp_ge (tgt := 140) hx hb dX10_readsWorker_94 (by decide) (fun c12 => ?_) (fun c12 => ?_)
                · replace hf := if_t hf c12
                  refine lv_aload_n hx hb dX10_readsWorker_140 rfl (lv_at hl 1 rfl) ?_
                  refine lv_bipush (v := 44) hx hb dX10_readsWorker_141 (by decide) ?_
                  obtain ⟨r13, hcr13, hf⟩ := bd_some hf
                  refine p_N (st1 := [.int (bI r13.1)]) (wr := []) (ws' := kMo k ot aMO (r13.2)) (run_V (rest := []) X (ctX10_hasSign (SZ_ok t) ot aMO hcr13) mk_X10_hasSign ml_X10_263 ⟨(Nat.le_of_ble_eq_true rfl), (Nat.le_of_ble_eq_true rfl)⟩ G [0, 1, 2, 3, 4, 5, 6, 7] rfl rfl 0 rfl rfl rfl hl.1 rfl (Nat.le_of_ble_eq_true rfl) dX10_readsWorker_143 ⟨Nat.zero_le _, Nat.zero_le _⟩) rfl G [0, 1, 2, 3, 4, 5, 6, 7] [] 8 rfl rfl rfl rfl rfl (by decide) (by decide) rfl (fun H locs G => ?_)
                  refine lv_if_ne (tgt := 23) hx hb dX10_readsWorker_146 (by decide) (fun c14 => ?_) (fun c14 => ?_)
                  · replace hf := if_f hf c14
                    cases hf
                    exact ih (stL4.1, r13.2) _ _ _ G (lv_sub hl [1, 2, 3] rfl) hoL4
                  · replace hf := if_t hf c14
                    cases hf
                    exact KL4_1 (stL4.1, r13.2) _ _ _ (it_out hoL4) G (lv_sub hl [1, 2, 3] rfl)
                · replace hf := if_f hf c12
                  refine lv_iload_n hx hb dX10_readsWorker_97 rfl (lv_at hl 2 rfl) ?_
                  refine lv_bipush (v := 8) hx hb dX10_readsWorker_98 (by decide) ?_
                  refine lv_icmp_ge (tgt := 140) hx hb dX10_readsWorker_100 (by decide) (fun c15 => ?_) (fun c15 => ?_)
                  · replace hf := if_t hf c15
                    refine lv_aload_n hx hb dX10_readsWorker_140 rfl (lv_at hl 1 rfl) ?_
                    refine lv_bipush (v := 44) hx hb dX10_readsWorker_141 (by decide) ?_
                    obtain ⟨r16, hcr16, hf⟩ := bd_some hf
                    refine p_N (st1 := [.int (bI r16.1)]) (wr := []) (ws' := kMo k ot aMO (r16.2)) (run_V (rest := []) X (ctX10_hasSign (SZ_ok t) ot aMO hcr16) mk_X10_hasSign ml_X10_263 ⟨(Nat.le_of_ble_eq_true rfl), (Nat.le_of_ble_eq_true rfl)⟩ G [0, 1, 2, 3, 4, 5, 6, 7] rfl rfl 0 rfl rfl rfl hl.1 rfl (Nat.le_of_ble_eq_true rfl) dX10_readsWorker_143 ⟨Nat.zero_le _, Nat.zero_le _⟩) rfl G [0, 1, 2, 3, 4, 5, 6, 7] [] 8 rfl rfl rfl rfl rfl (by decide) (by decide) rfl (fun H locs G => ?_)
                    refine lv_if_ne (tgt := 23) hx hb dX10_readsWorker_146 (by decide) (fun c17 => ?_) (fun c17 => ?_)
                    · replace hf := if_f hf c17
                      cases hf
                      exact ih (stL4.1, r16.2) _ _ _ G (lv_sub hl [1, 2, 3] rfl) hoL4
                    · replace hf := if_t hf c17
                      cases hf
                      exact KL4_1 (stL4.1, r16.2) _ _ _ (it_out hoL4) G (lv_sub hl [1, 2, 3] rfl)
                  · replace hf := if_f hf c15
                    refine lv_aload_n hx hb dX10_readsWorker_103 rfl (lv_at hl 1 rfl) ?_
                    refine r_get X inw_X10 G 0 rfl rfl 0 (by decide) fl_X10_7 (v := .ref (aMO 0)) rfl dX10_readsWorker_104 ?_
                    refine lv_sipush (v := 1437) hx hb dX10_readsWorker_107 (by decide) ?_
                    refine lv_bipush (v := 12) hx hb dX10_readsWorker_110 (by decide) ?_
                    refine lv_iload_n hx hb dX10_readsWorker_112 rfl (lv_at hl 2 rfl) ?_
                    refine lv_imul hx hb dX10_readsWorker_113 ?_
                    refine lv_iadd hx hb dX10_readsWorker_114 ?_
                    refine lv_iload_n hx hb dX10_readsWorker_115 rfl (lv_at hl 3 rfl) ?_
                    refine lv_iadd hx hb dX10_readsWorker_116 ?_
                    refine lv_iload hx hb dX10_readsWorker_117 (lv_at hl 4 rfl) ?_
                    obtain ⟨h18, hf⟩ := ix_some hf
                    obtain ⟨MO19, eMO19, hf⟩ := nm_some hf
                    refine r_iast X G 1 rfl h18 (ws' := kMo k ot aMO (MO19)) (by subst eMO19; rfl) dX10_readsWorker_119 (fun H locs G => ?_)
                    refine lv_aload_n hx hb dX10_readsWorker_120 rfl (lv_at hl 1 rfl) ?_
                    refine r_get X inw_X10 G 0 rfl rfl 0 (by decide) fl_X10_7 (v := .ref (aMO 0)) rfl dX10_readsWorker_121 ?_
                    refine lv_sipush (v := 1533) hx hb dX10_readsWorker_124 (by decide) ?_
                    refine lv_bipush (v := 12) hx hb dX10_readsWorker_127 (by decide) ?_
                    refine lv_iload_n hx hb dX10_readsWorker_129 rfl (lv_at hl 2 rfl) ?_
                    refine lv_imul hx hb dX10_readsWorker_130 ?_
                    refine lv_iadd hx hb dX10_readsWorker_131 ?_
                    refine lv_iload_n hx hb dX10_readsWorker_132 rfl (lv_at hl 3 rfl) ?_
                    refine lv_iadd hx hb dX10_readsWorker_133 ?_
                    refine lv_iload hx hb dX10_readsWorker_134 (lv_at hl 0 rfl) ?_
                    obtain ⟨h20, hf⟩ := ix_some hf
                    obtain ⟨MO21, eMO21, hf⟩ := nm_some hf
                    refine r_iast X G 1 rfl h20 (ws' := kMo k ot aMO (MO21)) (by subst eMO21; rfl) dX10_readsWorker_136 (fun H locs G => ?_)
                    obtain ⟨x22, ex22, hf⟩ := nm_some hf
                    refine lv_iinc (v := x22) (lv' := [(3, .int x22), (5, .int (r11.1)), (0, .ref ot), (2, .int x2), (4, .int vJ5)]) hx hb dX10_readsWorker_137 hl (k := 3) rfl (by subst ex22; rfl) (by decide) rfl (fun ls hl => ?_)
                    refine lv_aload_n hx hb dX10_readsWorker_140 rfl (lv_at hl 2 rfl) ?_
                    refine lv_bipush (v := 44) hx hb dX10_readsWorker_141 (by decide) ?_
                    obtain ⟨r23, hcr23, hf⟩ := bd_some hf
                    refine p_N (st1 := [.int (bI r23.1)]) (wr := []) (ws' := kMo k ot aMO (r23.2)) (run_V (rest := []) X (ctX10_hasSign (SZ_ok t) ot aMO hcr23) mk_X10_hasSign ml_X10_263 ⟨(Nat.le_of_ble_eq_true rfl), (Nat.le_of_ble_eq_true rfl)⟩ G [0, 1, 2, 3, 4, 5, 6, 7] rfl rfl 0 rfl rfl rfl hl.1 rfl (Nat.le_of_ble_eq_true rfl) dX10_readsWorker_143 ⟨Nat.zero_le _, Nat.zero_le _⟩) rfl G [0, 1, 2, 3, 4, 5, 6, 7] [] 8 rfl rfl rfl rfl rfl (by decide) (by decide) rfl (fun H locs G => ?_)
                    refine lv_if_ne (tgt := 23) hx hb dX10_readsWorker_146 (by decide) (fun c24 => ?_) (fun c24 => ?_)
                    · replace hf := if_f hf c24
                      cases hf
                      exact ih (x22, r23.2) _ _ _ G (lv_sub hl [2, 3, 0] rfl) hoL4
                    · replace hf := if_t hf c24
                      cases hf
                      exact KL4_1 (x22, r23.2) _ _ _ (it_out hoL4) G (lv_sub hl [2, 3, 0] rfl)
              refine lv_icmp_ne (tgt := 78) hx hb dX10_readsWorker_66 (by decide) (fun c25 => ?_) (fun c25 => ?_)
              · replace hf := if_f hf c25
                exact JJ9 vJ6 _ _ _ G (lv_sub hl [0, 1, 2, 3] rfl) hf
              · replace hf := if_t hf c25
                refine lv_aload_n hx hb dX10_readsWorker_69 rfl (lv_at hl 0 rfl) ?_
                refine lv_iconst (v := 3) hx hb dX10_readsWorker_70 (by decide) ?_
                refine lv_aload_n hx hb dX10_readsWorker_71 rfl (lv_at hl 0 rfl) ?_
                refine r_get X inw_X10 G 0 rfl rfl 14 (by decide) fl_X10_198 (v := .int (Mo_tokenAt vJ6)) rfl dX10_readsWorker_72 ?_
                obtain ⟨r26, hcr26, hf⟩ := bd_some hf
                refine p_N (st1 := []) (wr := []) (ws' := kMo k ot aMO (r26)) (run_V (rest := []) X (ctX10_also (SZ_ok t) ot aMO hcr26) mk_X10_also ml_X10_240 ⟨(Nat.le_of_ble_eq_true rfl), (Nat.le_of_ble_eq_true rfl)⟩ G [0, 1, 2, 3, 4, 5, 6, 7] rfl rfl 0 rfl rfl rfl hl.1 rfl (Nat.le_of_ble_eq_true rfl) dX10_readsWorker_75 ⟨Nat.zero_le _, Nat.zero_le _⟩) rfl G [0, 1, 2, 3, 4, 5, 6, 7] [] 8 rfl rfl rfl rfl rfl (by decide) (by decide) rfl (fun H locs G => ?_)
                exact JJ9 r26 _ _ _ G (lv_sub hl [0, 1, 2, 3] rfl) hf
            · replace hf := if_t hf c8
              cases hf
              exact KL4_0 vJ6 _ _ _ (it_out hoL4) G (lv_sub hl [] rfl)
          refine lv_icmp_ne (tgt := 55) hx hb dX10_readsWorker_48 (by decide) (fun c27 => ?_) (fun c27 => ?_)
          · replace hf := if_f hf c27
            exact JJ6 stL4.2 _ _ _ G (lv_sub hl [1, 2, 3, 0] rfl) hf
          · replace hf := if_t hf c27
            refine lv_aload_n hx hb dX10_readsWorker_51 rfl (lv_at hl 1 rfl) ?_
            obtain ⟨r28, hcr28, hf⟩ := bd_some hf
            refine p_N (st1 := []) (wr := []) (ws' := kMo k ot aMO (r28)) (run_V (rest := []) X (ctX10_wrong (SZ_ok t) ot aMO hcr28) mk_X10_wrong ml_X10_237 ⟨(Nat.le_of_ble_eq_true rfl), (Nat.le_of_ble_eq_true rfl)⟩ G [0, 1, 2, 3, 4, 5, 6, 7] rfl rfl 0 rfl rfl rfl hl.1 rfl (Nat.le_of_ble_eq_true rfl) dX10_readsWorker_52 ⟨Nat.zero_le _, Nat.zero_le _⟩) rfl G [0, 1, 2, 3, 4, 5, 6, 7] [] 8 rfl rfl rfl rfl rfl (by decide) (by decide) rfl (fun H locs G => ?_)
            exact JJ6 r28 _ _ _ G (lv_sub hl [1, 2, 3, 0] rfl) hf
        refine lv_icmp_ne (tgt := 42) hx hb dX10_readsWorker_28 (by decide) (fun c29 => ?_) (fun c29 => ?_)
        · replace hf := if_f hf c29
          refine lv_iconst (v := -1) hx hb dX10_readsWorker_42 (by decide) ?_
          exact JJ5 (-1 : Int32) _ _ _ G (lv_sub hl [0, 1, 2] rfl) hf
        · replace hf := if_t hf c29
          refine lv_aload_n hx hb dX10_readsWorker_31 rfl (lv_at hl 0 rfl) ?_
          refine lv_aload_n hx hb dX10_readsWorker_32 rfl (lv_at hl 0 rfl) ?_
          refine r_get X inw_X10 G 0 rfl rfl 15 (by decide) fl_X10_201 (v := .long (Mo_value stL4.2)) rfl dX10_readsWorker_33 ?_
          obtain ⟨r30, hcr30, hf⟩ := bd_some hf
          refine p_R (st1 := [.int r30]) (run_V (rest := []) X (ctX10_sortOf t ot hcr30) mk_X10_sortOf ml_X10_256 ⟨(Nat.le_of_ble_eq_true rfl), (Nat.le_of_ble_eq_true rfl)⟩ G [] rfl rfl 0 rfl rfl rfl hl.1 rfl (Nat.le_of_ble_eq_true rfl) dX10_readsWorker_36 ⟨Nat.zero_le _, Nat.zero_le _⟩) rfl ?_
          refine lv_goto (tgt := 43) hx hb dX10_readsWorker_39 (by decide) ?_
          exact JJ5 r30 _ _ _ G (lv_sub hl [0, 1, 2] rfl) hf
    exact LL4 nL4 ((0 : Int32), vJ3) _ _ _ G (lv_sub hl [1, 2, 0] rfl) hitL4
  refine lv_icmp_ne (tgt := 21) hx hb dX10_readsWorker_12 (by decide) (fun c37 => ?_) (fun c37 => ?_)
  · replace hf := if_f hf c37
    exact JJ3 MO _ _ _ G (lv_sub hl [1, 0] rfl) hf
  · replace hf := if_t hf c37
    refine lv_aload_n hx hb dX10_readsWorker_15 rfl (lv_at hl 1 rfl) ?_
    refine lv_iconst (v := 4) hx hb dX10_readsWorker_16 (by decide) ?_
    refine lv_iload_n hx hb dX10_readsWorker_17 rfl (lv_at hl 2 rfl) ?_
    obtain ⟨r38, hcr38, hf⟩ := bd_some hf
    refine p_N (st1 := []) (wr := []) (ws' := kMo k ot aMO (r38)) (run_V (rest := []) X (ctX10_also (SZ_ok t) ot aMO hcr38) mk_X10_also ml_X10_240 ⟨(Nat.le_of_ble_eq_true rfl), (Nat.le_of_ble_eq_true rfl)⟩ G [0, 1, 2, 3, 4, 5, 6, 7] rfl rfl 0 rfl rfl rfl hl.1 rfl (Nat.le_of_ble_eq_true rfl) dX10_readsWorker_18 ⟨Nat.zero_le _, Nat.zero_le _⟩) rfl G [0, 1, 2, 3, 4, 5, 6, 7] [] 8 rfl rfl rfl rfl rfl (by decide) (by decide) rfl (fun H locs G => ?_)
    exact JJ3 r38 _ _ _ G (lv_sub hl [1, 0] rfl) hf
theorem mk_X10_readsWorker : MV yX10_readsWorker cX10_readsWorker 6 none 1 := ⟨co_X10_readsWorker, in_X10, im_X10_readsWorker, se_X10_readsWorker, by decide +kernel, by decide +kernel⟩
noncomputable def FX10_readsLine (MO : MoT) : Option (MoT) :=
  nm (Mo_tokenAt MO) fun x1 =>
  (FX10_hasWord MO (335086736 : Int64)).bind fun r2 =>
  if (bI r2.1) = 0 then (
    (FX10_hasWord r2.2 (4075196 : Int64)).bind fun r4 =>
    if (bI r4.1) = 0 then (
      (FX10_hasWord r4.2 (321926 : Int64)).bind fun r6 =>
      if (bI r6.1) = 0 then (
        (FX10_hasWord r6.2 (338358942 : Int64)).bind fun r8 =>
        if (bI r8.1) = 0 then (
          (FX10_wrong r8.2).bind fun r10 =>
          (FX10_isGood r10).bind fun r11 =>
          if (bI r11) = 0 then (
            some r10
          ) else (
            (FX10_hasSign r10 (59 : Int32)).bind fun r13 =>
            if (bI r13.1) = 0 then (
              (FX10_wrong r13.2).bind fun r15 =>
              some r15
            ) else (
              some r13.2
            )
          )
        ) else (
          (FX10_readsWorker r8.2 x1).bind fun r16 =>
          (FX10_isGood r16).bind fun r17 =>
          if (bI r17) = 0 then (
            some r16
          ) else (
            (FX10_hasSign r16 (59 : Int32)).bind fun r19 =>
            if (bI r19.1) = 0 then (
              (FX10_wrong r19.2).bind fun r21 =>
              some r21
            ) else (
              some r19.2
            )
          )
        )
      ) else (
        (FX10_numeral r6.2 (0 : Int32) (3 : Int32)).bind fun r22 =>
        (FX10_numeral r22.2 (1 : Int32) (9 : Int32)).bind fun r23 =>
        ix ((1425 : Int32) + r22.1) 9519 <|
        nm (sMo_all r23.2 (upd (Mo_all r23.2) (Int32.toNatClampNeg ((1425 : Int32) + r22.1)) r23.1)) fun MO25 =>
        (FX10_isGood MO25).bind fun r26 =>
        if (bI r26) = 0 then (
          some MO25
        ) else (
          (FX10_hasSign MO25 (59 : Int32)).bind fun r28 =>
          if (bI r28.1) = 0 then (
            (FX10_wrong r28.2).bind fun r30 =>
            some r30
          ) else (
            some r28.2
          )
        )
      )
    ) else (
      (FX10_numeral r4.2 (0 : Int32) (50 : Int32)).bind fun r31 =>
      ix (1424 : Int32) 9519 <|
      nm (sMo_all r31.2 (upd (Mo_all r31.2) (Int32.toNatClampNeg (1424 : Int32)) r31.1)) fun MO33 =>
      (FX10_isGood MO33).bind fun r34 =>
      if (bI r34) = 0 then (
        some MO33
      ) else (
        (FX10_hasSign MO33 (59 : Int32)).bind fun r36 =>
        if (bI r36.1) = 0 then (
          (FX10_wrong r36.2).bind fun r38 =>
          some r38
        ) else (
          some r36.2
        )
      )
    )
  ) else (
    (FX10_numeral r2.2 (1 : Int32) (50 : Int32)).bind fun r39 =>
    ix (1423 : Int32) 9519 <|
    nm (sMo_all r39.2 (upd (Mo_all r39.2) (Int32.toNatClampNeg (1423 : Int32)) r39.1)) fun MO41 =>
    (FX10_isGood MO41).bind fun r42 =>
    if (bI r42) = 0 then (
      some MO41
    ) else (
      (FX10_hasSign MO41 (59 : Int32)).bind fun r44 =>
      if (bI r44.1) = 0 then (
        (FX10_wrong r44.2).bind fun r46 =>
        some r46
      ) else (
        some r44.2
      )
    )
  )
set_option maxHeartbeats 4000000 in
set_option maxRecDepth 100000 in
theorem ctX10_readsLine {l : Launch} {D : va_G} {k : Nat → ClassId} (t : Nat → Nat) (ot : Nat) (aMO : Nat → Nat) {MO : MoT} {q : MoT} (hf : FX10_readsLine MO = some q) :
    CM l D k (SZ t) yX10_readsLine cX10_readsLine 3 none 5 116 [.ref ot] none (kMo k ot aMO (MO)) (kMo k ot aMO (q)) := by
  refine CM.start (SZ_ok t) (by decide) (Nat.le_of_ble_eq_true rfl) ?_
  intro p e s m below meth c ls X hl G
  have hx := X.1
  have hb := X.2.1
  have hz := X.2.2.2.2.2.2.2.2.1
  have hl : lv_has ls 3 [(0, .ref ot)] := hl
  unfold FX10_readsLine at hf
  refine lv_aload_n hx hb dX10_readsLine_0 rfl (lv_at hl 0 rfl) ?_
  refine r_get X inw_X10 G 0 rfl rfl 14 (by decide) fl_X10_198 (v := .int (Mo_tokenAt MO)) rfl dX10_readsLine_1 ?_
  obtain ⟨x1, ex1, hf⟩ := nm_some hf
  refine r_top (congrArg Value.int ex1) ?_
  refine lv_istore_n (lv' := [(1, .int x1), (0, .ref ot)]) hx hb dX10_readsLine_4 rfl hl (by decide) rfl (fun ls hl => ?_)
  refine lv_aload_n hx hb dX10_readsLine_5 rfl (lv_at hl 1 rfl) ?_
  refine lv_ldc2 (v := 335086736) hx hb X.2.2.2.2.2.1 (X.2.2.2.2.2.2.1.use ck_X10_266) dX10_readsLine_6 ?_
  obtain ⟨r2, hcr2, hf⟩ := bd_some hf
  refine p_N (st1 := [.int (bI r2.1)]) (wr := []) (ws' := kMo k ot aMO (r2.2)) (run_V (rest := []) X (ctX10_hasWord (SZ_ok t) ot aMO hcr2) mk_X10_hasWord ml_X10_268 ⟨(Nat.le_of_ble_eq_true rfl), (Nat.le_of_ble_eq_true rfl)⟩ G [0, 1, 2, 3, 4, 5, 6, 7] rfl rfl 0 rfl rfl rfl hl.1 rfl (Nat.le_of_ble_eq_true rfl) dX10_readsLine_9 ⟨Nat.zero_le _, Nat.zero_le _⟩) rfl G [0, 1, 2, 3, 4, 5, 6, 7] [] 8 rfl rfl rfl rfl rfl (by decide) (by decide) rfl (fun H locs G => ?_)
  refine lv_if_eq (tgt := 33) hx hb dX10_readsLine_12 (by decide) (fun c3 => ?_) (fun c3 => ?_)
  · replace hf := if_t hf c3
    refine lv_aload_n hx hb dX10_readsLine_33 rfl (lv_at hl 1 rfl) ?_
    refine lv_ldc2 (v := 4075196) hx hb X.2.2.2.2.2.1 (X.2.2.2.2.2.2.1.use ck_X10_272) dX10_readsLine_34 ?_
    obtain ⟨r4, hcr4, hf⟩ := bd_some hf
    refine p_N (st1 := [.int (bI r4.1)]) (wr := []) (ws' := kMo k ot aMO (r4.2)) (run_V (rest := []) X (ctX10_hasWord (SZ_ok t) ot aMO hcr4) mk_X10_hasWord ml_X10_268 ⟨(Nat.le_of_ble_eq_true rfl), (Nat.le_of_ble_eq_true rfl)⟩ G [0, 1, 2, 3, 4, 5, 6, 7] rfl rfl 0 rfl rfl rfl hl.1 rfl (Nat.le_of_ble_eq_true rfl) dX10_readsLine_37 ⟨Nat.zero_le _, Nat.zero_le _⟩) rfl G [0, 1, 2, 3, 4, 5, 6, 7] [] 8 rfl rfl rfl rfl rfl (by decide) (by decide) rfl (fun H locs G => ?_)
    refine lv_if_eq (tgt := 61) hx hb dX10_readsLine_40 (by decide) (fun c5 => ?_) (fun c5 => ?_)
    · replace hf := if_t hf c5
      refine lv_aload_n hx hb dX10_readsLine_61 rfl (lv_at hl 1 rfl) ?_
      refine lv_ldc2 (v := 321926) hx hb X.2.2.2.2.2.1 (X.2.2.2.2.2.2.1.use ck_X10_274) dX10_readsLine_62 ?_
      obtain ⟨r6, hcr6, hf⟩ := bd_some hf
      refine p_N (st1 := [.int (bI r6.1)]) (wr := []) (ws' := kMo k ot aMO (r6.2)) (run_V (rest := []) X (ctX10_hasWord (SZ_ok t) ot aMO hcr6) mk_X10_hasWord ml_X10_268 ⟨(Nat.le_of_ble_eq_true rfl), (Nat.le_of_ble_eq_true rfl)⟩ G [0, 1, 2, 3, 4, 5, 6, 7] rfl rfl 0 rfl rfl rfl hl.1 rfl (Nat.le_of_ble_eq_true rfl) dX10_readsLine_65 ⟨Nat.zero_le _, Nat.zero_le _⟩) rfl G [0, 1, 2, 3, 4, 5, 6, 7] [] 8 rfl rfl rfl rfl rfl (by decide) (by decide) rfl (fun H locs G => ?_)
      refine lv_if_eq (tgt := 98) hx hb dX10_readsLine_68 (by decide) (fun c7 => ?_) (fun c7 => ?_)
      · replace hf := if_t hf c7
        refine lv_aload_n hx hb dX10_readsLine_98 rfl (lv_at hl 1 rfl) ?_
        refine lv_ldc2 (v := 338358942) hx hb X.2.2.2.2.2.1 (X.2.2.2.2.2.2.1.use ck_X10_276) dX10_readsLine_99 ?_
        obtain ⟨r8, hcr8, hf⟩ := bd_some hf
        refine p_N (st1 := [.int (bI r8.1)]) (wr := []) (ws' := kMo k ot aMO (r8.2)) (run_V (rest := []) X (ctX10_hasWord (SZ_ok t) ot aMO hcr8) mk_X10_hasWord ml_X10_268 ⟨(Nat.le_of_ble_eq_true rfl), (Nat.le_of_ble_eq_true rfl)⟩ G [0, 1, 2, 3, 4, 5, 6, 7] rfl rfl 0 rfl rfl rfl hl.1 rfl (Nat.le_of_ble_eq_true rfl) dX10_readsLine_102 ⟨Nat.zero_le _, Nat.zero_le _⟩) rfl G [0, 1, 2, 3, 4, 5, 6, 7] [] 8 rfl rfl rfl rfl rfl (by decide) (by decide) rfl (fun H locs G => ?_)
        refine lv_if_eq (tgt := 116) hx hb dX10_readsLine_105 (by decide) (fun c9 => ?_) (fun c9 => ?_)
        · replace hf := if_t hf c9
          refine lv_aload_n hx hb dX10_readsLine_116 rfl (lv_at hl 1 rfl) ?_
          obtain ⟨r10, hcr10, hf⟩ := bd_some hf
          refine p_N (st1 := []) (wr := []) (ws' := kMo k ot aMO (r10)) (run_V (rest := []) X (ctX10_wrong (SZ_ok t) ot aMO hcr10) mk_X10_wrong ml_X10_237 ⟨(Nat.le_of_ble_eq_true rfl), (Nat.le_of_ble_eq_true rfl)⟩ G [0, 1, 2, 3, 4, 5, 6, 7] rfl rfl 0 rfl rfl rfl hl.1 rfl (Nat.le_of_ble_eq_true rfl) dX10_readsLine_117 ⟨Nat.zero_le _, Nat.zero_le _⟩) rfl G [0, 1, 2, 3, 4, 5, 6, 7] [] 8 rfl rfl rfl rfl rfl (by decide) (by decide) rfl (fun H locs G => ?_)
          refine lv_aload_n hx hb dX10_readsLine_120 rfl (lv_at hl 1 rfl) ?_
          obtain ⟨r11, hcr11, hf⟩ := bd_some hf
          refine p_R (st1 := [.int (bI r11)]) (run_V (rest := []) X (ctX10_isGood (SZ_ok t) ot aMO hcr11) mk_X10_isGood ml_X10_230 ⟨(Nat.le_of_ble_eq_true rfl), (Nat.le_of_ble_eq_true rfl)⟩ G [0, 1, 2, 3, 4, 5, 6, 7] rfl rfl 0 rfl rfl rfl hl.1 rfl (Nat.le_of_ble_eq_true rfl) dX10_readsLine_121 ⟨Nat.zero_le _, Nat.zero_le _⟩) rfl ?_
          refine lv_if_eq (tgt := 140) hx hb dX10_readsLine_124 (by decide) (fun c12 => ?_) (fun c12 => ?_)
          · replace hf := if_t hf c12
            cases hf
            exact e_mv X G dX10_readsLine_140
          · replace hf := if_f hf c12
            refine lv_aload_n hx hb dX10_readsLine_127 rfl (lv_at hl 1 rfl) ?_
            refine lv_bipush (v := 59) hx hb dX10_readsLine_128 (by decide) ?_
            obtain ⟨r13, hcr13, hf⟩ := bd_some hf
            refine p_N (st1 := [.int (bI r13.1)]) (wr := []) (ws' := kMo k ot aMO (r13.2)) (run_V (rest := []) X (ctX10_hasSign (SZ_ok t) ot aMO hcr13) mk_X10_hasSign ml_X10_263 ⟨(Nat.le_of_ble_eq_true rfl), (Nat.le_of_ble_eq_true rfl)⟩ G [0, 1, 2, 3, 4, 5, 6, 7] rfl rfl 0 rfl rfl rfl hl.1 rfl (Nat.le_of_ble_eq_true rfl) dX10_readsLine_130 ⟨Nat.zero_le _, Nat.zero_le _⟩) rfl G [0, 1, 2, 3, 4, 5, 6, 7] [] 8 rfl rfl rfl rfl rfl (by decide) (by decide) rfl (fun H locs G => ?_)
            refine lv_if_ne (tgt := 140) hx hb dX10_readsLine_133 (by decide) (fun c14 => ?_) (fun c14 => ?_)
            · replace hf := if_f hf c14
              cases hf
              exact e_mv X G dX10_readsLine_140
            · replace hf := if_t hf c14
              refine lv_aload_n hx hb dX10_readsLine_136 rfl (lv_at hl 1 rfl) ?_
              obtain ⟨r15, hcr15, hf⟩ := bd_some hf
              refine p_N (st1 := []) (wr := []) (ws' := kMo k ot aMO (r15)) (run_V (rest := []) X (ctX10_wrong (SZ_ok t) ot aMO hcr15) mk_X10_wrong ml_X10_237 ⟨(Nat.le_of_ble_eq_true rfl), (Nat.le_of_ble_eq_true rfl)⟩ G [0, 1, 2, 3, 4, 5, 6, 7] rfl rfl 0 rfl rfl rfl hl.1 rfl (Nat.le_of_ble_eq_true rfl) dX10_readsLine_137 ⟨Nat.zero_le _, Nat.zero_le _⟩) rfl G [0, 1, 2, 3, 4, 5, 6, 7] [] 8 rfl rfl rfl rfl rfl (by decide) (by decide) rfl (fun H locs G => ?_)
              cases hf
              exact e_mv X G dX10_readsLine_140
        · replace hf := if_f hf c9
          refine lv_aload_n hx hb dX10_readsLine_108 rfl (lv_at hl 1 rfl) ?_
          refine lv_iload_n hx hb dX10_readsLine_109 rfl (lv_at hl 0 rfl) ?_
          obtain ⟨r16, hcr16, hf⟩ := bd_some hf
          refine p_N (st1 := []) (wr := []) (ws' := kMo k ot aMO (r16)) (run_V (rest := []) X (ctX10_readsWorker t ot aMO hcr16) mk_X10_readsWorker ml_X10_278 ⟨(Nat.le_of_ble_eq_true rfl), (Nat.le_of_ble_eq_true rfl)⟩ G [0, 1, 2, 3, 4, 5, 6, 7] rfl rfl 0 rfl rfl rfl hl.1 rfl (Nat.le_of_ble_eq_true rfl) dX10_readsLine_110 ⟨Nat.zero_le _, Nat.zero_le _⟩) rfl G [0, 1, 2, 3, 4, 5, 6, 7] [] 8 rfl rfl rfl rfl rfl (by decide) (by decide) rfl (fun H locs G => ?_)
          refine lv_goto (tgt := 120) hx hb dX10_readsLine_113 (by decide) ?_
          refine lv_aload_n hx hb dX10_readsLine_120 rfl (lv_at hl 1 rfl) ?_
          obtain ⟨r17, hcr17, hf⟩ := bd_some hf
          refine p_R (st1 := [.int (bI r17)]) (run_V (rest := []) X (ctX10_isGood (SZ_ok t) ot aMO hcr17) mk_X10_isGood ml_X10_230 ⟨(Nat.le_of_ble_eq_true rfl), (Nat.le_of_ble_eq_true rfl)⟩ G [0, 1, 2, 3, 4, 5, 6, 7] rfl rfl 0 rfl rfl rfl hl.1 rfl (Nat.le_of_ble_eq_true rfl) dX10_readsLine_121 ⟨Nat.zero_le _, Nat.zero_le _⟩) rfl ?_
          refine lv_if_eq (tgt := 140) hx hb dX10_readsLine_124 (by decide) (fun c18 => ?_) (fun c18 => ?_)
          · replace hf := if_t hf c18
            cases hf
            exact e_mv X G dX10_readsLine_140
          · replace hf := if_f hf c18
            refine lv_aload_n hx hb dX10_readsLine_127 rfl (lv_at hl 1 rfl) ?_
            refine lv_bipush (v := 59) hx hb dX10_readsLine_128 (by decide) ?_
            obtain ⟨r19, hcr19, hf⟩ := bd_some hf
            refine p_N (st1 := [.int (bI r19.1)]) (wr := []) (ws' := kMo k ot aMO (r19.2)) (run_V (rest := []) X (ctX10_hasSign (SZ_ok t) ot aMO hcr19) mk_X10_hasSign ml_X10_263 ⟨(Nat.le_of_ble_eq_true rfl), (Nat.le_of_ble_eq_true rfl)⟩ G [0, 1, 2, 3, 4, 5, 6, 7] rfl rfl 0 rfl rfl rfl hl.1 rfl (Nat.le_of_ble_eq_true rfl) dX10_readsLine_130 ⟨Nat.zero_le _, Nat.zero_le _⟩) rfl G [0, 1, 2, 3, 4, 5, 6, 7] [] 8 rfl rfl rfl rfl rfl (by decide) (by decide) rfl (fun H locs G => ?_)
            refine lv_if_ne (tgt := 140) hx hb dX10_readsLine_133 (by decide) (fun c20 => ?_) (fun c20 => ?_)
            · replace hf := if_f hf c20
              cases hf
              exact e_mv X G dX10_readsLine_140
            · replace hf := if_t hf c20
              refine lv_aload_n hx hb dX10_readsLine_136 rfl (lv_at hl 1 rfl) ?_
              obtain ⟨r21, hcr21, hf⟩ := bd_some hf
              refine p_N (st1 := []) (wr := []) (ws' := kMo k ot aMO (r21)) (run_V (rest := []) X (ctX10_wrong (SZ_ok t) ot aMO hcr21) mk_X10_wrong ml_X10_237 ⟨(Nat.le_of_ble_eq_true rfl), (Nat.le_of_ble_eq_true rfl)⟩ G [0, 1, 2, 3, 4, 5, 6, 7] rfl rfl 0 rfl rfl rfl hl.1 rfl (Nat.le_of_ble_eq_true rfl) dX10_readsLine_137 ⟨Nat.zero_le _, Nat.zero_le _⟩) rfl G [0, 1, 2, 3, 4, 5, 6, 7] [] 8 rfl rfl rfl rfl rfl (by decide) (by decide) rfl (fun H locs G => ?_)
              cases hf
              exact e_mv X G dX10_readsLine_140
      · replace hf := if_f hf c7
        refine lv_aload_n hx hb dX10_readsLine_71 rfl (lv_at hl 1 rfl) ?_
        refine lv_iconst (v := 0) hx hb dX10_readsLine_72 (by decide) ?_
        refine lv_iconst (v := 3) hx hb dX10_readsLine_73 (by decide) ?_
        obtain ⟨r22, hcr22, hf⟩ := bd_some hf
        refine p_N (st1 := [.int (r22.1)]) (wr := []) (ws' := kMo k ot aMO (r22.2)) (run_V (rest := []) X (ctX10_numeral (SZ_ok t) ot aMO hcr22) mk_X10_numeral ml_X10_248 ⟨(Nat.le_of_ble_eq_true rfl), (Nat.le_of_ble_eq_true rfl)⟩ G [0, 1, 2, 3, 4, 5, 6, 7] rfl rfl 0 rfl rfl rfl hl.1 rfl (Nat.le_of_ble_eq_true rfl) dX10_readsLine_74 ⟨Nat.zero_le _, Nat.zero_le _⟩) rfl G [0, 1, 2, 3, 4, 5, 6, 7] [] 8 rfl rfl rfl rfl rfl (by decide) (by decide) rfl (fun H locs G => ?_)
        refine lv_istore_n (lv' := [(2, .int (r22.1)), (1, .int x1), (0, .ref ot)]) hx hb dX10_readsLine_77 rfl hl (by decide) rfl (fun ls hl => ?_)
        refine lv_aload_n hx hb dX10_readsLine_78 rfl (lv_at hl 2 rfl) ?_
        refine r_get X inw_X10 G 0 rfl rfl 0 (by decide) fl_X10_7 (v := .ref (aMO 0)) rfl dX10_readsLine_79 ?_
        refine lv_sipush (v := 1425) hx hb dX10_readsLine_82 (by decide) ?_
        refine lv_iload_n hx hb dX10_readsLine_85 rfl (lv_at hl 0 rfl) ?_
        refine lv_iadd hx hb dX10_readsLine_86 ?_
        refine lv_aload_n hx hb dX10_readsLine_87 rfl (lv_at hl 2 rfl) ?_
        refine lv_iconst (v := 1) hx hb dX10_readsLine_88 (by decide) ?_
        refine lv_bipush (v := 9) hx hb dX10_readsLine_89 (by decide) ?_
        obtain ⟨r23, hcr23, hf⟩ := bd_some hf
        refine p_N (st1 := [.int (r23.1), .int ((1425 : Int32) + r22.1), .ref (aMO 0)]) (wr := []) (ws' := kMo k ot aMO (r23.2)) (run_V (rest := [.int ((1425 : Int32) + r22.1), .ref (aMO 0)]) X (ctX10_numeral (SZ_ok t) ot aMO hcr23) mk_X10_numeral ml_X10_248 ⟨(Nat.le_of_ble_eq_true rfl), (Nat.le_of_ble_eq_true rfl)⟩ G [0, 1, 2, 3, 4, 5, 6, 7] rfl rfl 0 rfl rfl rfl hl.1 rfl (Nat.le_of_ble_eq_true rfl) dX10_readsLine_91 ⟨Nat.zero_le _, Nat.zero_le _⟩) rfl G [0, 1, 2, 3, 4, 5, 6, 7] [] 8 rfl rfl rfl rfl rfl (by decide) (by decide) rfl (fun H locs G => ?_)
        obtain ⟨h24, hf⟩ := ix_some hf
        obtain ⟨MO25, eMO25, hf⟩ := nm_some hf
        refine r_iast X G 1 rfl h24 (ws' := kMo k ot aMO (MO25)) (by subst eMO25; rfl) dX10_readsLine_94 (fun H locs G => ?_)
        refine lv_goto (tgt := 120) hx hb dX10_readsLine_95 (by decide) ?_
        refine lv_aload_n hx hb dX10_readsLine_120 rfl (lv_at hl 2 rfl) ?_
        obtain ⟨r26, hcr26, hf⟩ := bd_some hf
        refine p_R (st1 := [.int (bI r26)]) (run_V (rest := []) X (ctX10_isGood (SZ_ok t) ot aMO hcr26) mk_X10_isGood ml_X10_230 ⟨(Nat.le_of_ble_eq_true rfl), (Nat.le_of_ble_eq_true rfl)⟩ G [0, 1, 2, 3, 4, 5, 6, 7] rfl rfl 0 rfl rfl rfl hl.1 rfl (Nat.le_of_ble_eq_true rfl) dX10_readsLine_121 ⟨Nat.zero_le _, Nat.zero_le _⟩) rfl ?_
        refine lv_if_eq (tgt := 140) hx hb dX10_readsLine_124 (by decide) (fun c27 => ?_) (fun c27 => ?_)
        · replace hf := if_t hf c27
          cases hf
          exact e_mv X G dX10_readsLine_140
        · replace hf := if_f hf c27
          refine lv_aload_n hx hb dX10_readsLine_127 rfl (lv_at hl 2 rfl) ?_
          refine lv_bipush (v := 59) hx hb dX10_readsLine_128 (by decide) ?_
          obtain ⟨r28, hcr28, hf⟩ := bd_some hf
          refine p_N (st1 := [.int (bI r28.1)]) (wr := []) (ws' := kMo k ot aMO (r28.2)) (run_V (rest := []) X (ctX10_hasSign (SZ_ok t) ot aMO hcr28) mk_X10_hasSign ml_X10_263 ⟨(Nat.le_of_ble_eq_true rfl), (Nat.le_of_ble_eq_true rfl)⟩ G [0, 1, 2, 3, 4, 5, 6, 7] rfl rfl 0 rfl rfl rfl hl.1 rfl (Nat.le_of_ble_eq_true rfl) dX10_readsLine_130 ⟨Nat.zero_le _, Nat.zero_le _⟩) rfl G [0, 1, 2, 3, 4, 5, 6, 7] [] 8 rfl rfl rfl rfl rfl (by decide) (by decide) rfl (fun H locs G => ?_)
          refine lv_if_ne (tgt := 140) hx hb dX10_readsLine_133 (by decide) (fun c29 => ?_) (fun c29 => ?_)
          · replace hf := if_f hf c29
            cases hf
            exact e_mv X G dX10_readsLine_140
          · replace hf := if_t hf c29
            refine lv_aload_n hx hb dX10_readsLine_136 rfl (lv_at hl 2 rfl) ?_
            obtain ⟨r30, hcr30, hf⟩ := bd_some hf
            refine p_N (st1 := []) (wr := []) (ws' := kMo k ot aMO (r30)) (run_V (rest := []) X (ctX10_wrong (SZ_ok t) ot aMO hcr30) mk_X10_wrong ml_X10_237 ⟨(Nat.le_of_ble_eq_true rfl), (Nat.le_of_ble_eq_true rfl)⟩ G [0, 1, 2, 3, 4, 5, 6, 7] rfl rfl 0 rfl rfl rfl hl.1 rfl (Nat.le_of_ble_eq_true rfl) dX10_readsLine_137 ⟨Nat.zero_le _, Nat.zero_le _⟩) rfl G [0, 1, 2, 3, 4, 5, 6, 7] [] 8 rfl rfl rfl rfl rfl (by decide) (by decide) rfl (fun H locs G => ?_)
            cases hf
            exact e_mv X G dX10_readsLine_140
    · replace hf := if_f hf c5
      refine lv_aload_n hx hb dX10_readsLine_43 rfl (lv_at hl 1 rfl) ?_
      refine r_get X inw_X10 G 0 rfl rfl 0 (by decide) fl_X10_7 (v := .ref (aMO 0)) rfl dX10_readsLine_44 ?_
      refine lv_sipush (v := 1424) hx hb dX10_readsLine_47 (by decide) ?_
      refine lv_aload_n hx hb dX10_readsLine_50 rfl (lv_at hl 1 rfl) ?_
      refine lv_iconst (v := 0) hx hb dX10_readsLine_51 (by decide) ?_
      refine lv_bipush (v := 50) hx hb dX10_readsLine_52 (by decide) ?_
      obtain ⟨r31, hcr31, hf⟩ := bd_some hf
      refine p_N (st1 := [.int (r31.1), .int (1424 : Int32), .ref (aMO 0)]) (wr := []) (ws' := kMo k ot aMO (r31.2)) (run_V (rest := [.int (1424 : Int32), .ref (aMO 0)]) X (ctX10_numeral (SZ_ok t) ot aMO hcr31) mk_X10_numeral ml_X10_248 ⟨(Nat.le_of_ble_eq_true rfl), (Nat.le_of_ble_eq_true rfl)⟩ G [0, 1, 2, 3, 4, 5, 6, 7] rfl rfl 0 rfl rfl rfl hl.1 rfl (Nat.le_of_ble_eq_true rfl) dX10_readsLine_54 ⟨Nat.zero_le _, Nat.zero_le _⟩) rfl G [0, 1, 2, 3, 4, 5, 6, 7] [] 8 rfl rfl rfl rfl rfl (by decide) (by decide) rfl (fun H locs G => ?_)
      obtain ⟨h32, hf⟩ := ix_some hf
      obtain ⟨MO33, eMO33, hf⟩ := nm_some hf
      refine r_iast X G 1 rfl h32 (ws' := kMo k ot aMO (MO33)) (by subst eMO33; rfl) dX10_readsLine_57 (fun H locs G => ?_)
      refine lv_goto (tgt := 120) hx hb dX10_readsLine_58 (by decide) ?_
      refine lv_aload_n hx hb dX10_readsLine_120 rfl (lv_at hl 1 rfl) ?_
      obtain ⟨r34, hcr34, hf⟩ := bd_some hf
      refine p_R (st1 := [.int (bI r34)]) (run_V (rest := []) X (ctX10_isGood (SZ_ok t) ot aMO hcr34) mk_X10_isGood ml_X10_230 ⟨(Nat.le_of_ble_eq_true rfl), (Nat.le_of_ble_eq_true rfl)⟩ G [0, 1, 2, 3, 4, 5, 6, 7] rfl rfl 0 rfl rfl rfl hl.1 rfl (Nat.le_of_ble_eq_true rfl) dX10_readsLine_121 ⟨Nat.zero_le _, Nat.zero_le _⟩) rfl ?_
      refine lv_if_eq (tgt := 140) hx hb dX10_readsLine_124 (by decide) (fun c35 => ?_) (fun c35 => ?_)
      · replace hf := if_t hf c35
        cases hf
        exact e_mv X G dX10_readsLine_140
      · replace hf := if_f hf c35
        refine lv_aload_n hx hb dX10_readsLine_127 rfl (lv_at hl 1 rfl) ?_
        refine lv_bipush (v := 59) hx hb dX10_readsLine_128 (by decide) ?_
        obtain ⟨r36, hcr36, hf⟩ := bd_some hf
        refine p_N (st1 := [.int (bI r36.1)]) (wr := []) (ws' := kMo k ot aMO (r36.2)) (run_V (rest := []) X (ctX10_hasSign (SZ_ok t) ot aMO hcr36) mk_X10_hasSign ml_X10_263 ⟨(Nat.le_of_ble_eq_true rfl), (Nat.le_of_ble_eq_true rfl)⟩ G [0, 1, 2, 3, 4, 5, 6, 7] rfl rfl 0 rfl rfl rfl hl.1 rfl (Nat.le_of_ble_eq_true rfl) dX10_readsLine_130 ⟨Nat.zero_le _, Nat.zero_le _⟩) rfl G [0, 1, 2, 3, 4, 5, 6, 7] [] 8 rfl rfl rfl rfl rfl (by decide) (by decide) rfl (fun H locs G => ?_)
        refine lv_if_ne (tgt := 140) hx hb dX10_readsLine_133 (by decide) (fun c37 => ?_) (fun c37 => ?_)
        · replace hf := if_f hf c37
          cases hf
          exact e_mv X G dX10_readsLine_140
        · replace hf := if_t hf c37
          refine lv_aload_n hx hb dX10_readsLine_136 rfl (lv_at hl 1 rfl) ?_
          obtain ⟨r38, hcr38, hf⟩ := bd_some hf
          refine p_N (st1 := []) (wr := []) (ws' := kMo k ot aMO (r38)) (run_V (rest := []) X (ctX10_wrong (SZ_ok t) ot aMO hcr38) mk_X10_wrong ml_X10_237 ⟨(Nat.le_of_ble_eq_true rfl), (Nat.le_of_ble_eq_true rfl)⟩ G [0, 1, 2, 3, 4, 5, 6, 7] rfl rfl 0 rfl rfl rfl hl.1 rfl (Nat.le_of_ble_eq_true rfl) dX10_readsLine_137 ⟨Nat.zero_le _, Nat.zero_le _⟩) rfl G [0, 1, 2, 3, 4, 5, 6, 7] [] 8 rfl rfl rfl rfl rfl (by decide) (by decide) rfl (fun H locs G => ?_)
          cases hf
          exact e_mv X G dX10_readsLine_140
  · replace hf := if_f hf c3
    refine lv_aload_n hx hb dX10_readsLine_15 rfl (lv_at hl 1 rfl) ?_
    refine r_get X inw_X10 G 0 rfl rfl 0 (by decide) fl_X10_7 (v := .ref (aMO 0)) rfl dX10_readsLine_16 ?_
    refine lv_sipush (v := 1423) hx hb dX10_readsLine_19 (by decide) ?_
    refine lv_aload_n hx hb dX10_readsLine_22 rfl (lv_at hl 1 rfl) ?_
    refine lv_iconst (v := 1) hx hb dX10_readsLine_23 (by decide) ?_
    refine lv_bipush (v := 50) hx hb dX10_readsLine_24 (by decide) ?_
    obtain ⟨r39, hcr39, hf⟩ := bd_some hf
    refine p_N (st1 := [.int (r39.1), .int (1423 : Int32), .ref (aMO 0)]) (wr := []) (ws' := kMo k ot aMO (r39.2)) (run_V (rest := [.int (1423 : Int32), .ref (aMO 0)]) X (ctX10_numeral (SZ_ok t) ot aMO hcr39) mk_X10_numeral ml_X10_248 ⟨(Nat.le_of_ble_eq_true rfl), (Nat.le_of_ble_eq_true rfl)⟩ G [0, 1, 2, 3, 4, 5, 6, 7] rfl rfl 0 rfl rfl rfl hl.1 rfl (Nat.le_of_ble_eq_true rfl) dX10_readsLine_26 ⟨Nat.zero_le _, Nat.zero_le _⟩) rfl G [0, 1, 2, 3, 4, 5, 6, 7] [] 8 rfl rfl rfl rfl rfl (by decide) (by decide) rfl (fun H locs G => ?_)
    obtain ⟨h40, hf⟩ := ix_some hf
    obtain ⟨MO41, eMO41, hf⟩ := nm_some hf
    refine r_iast X G 1 rfl h40 (ws' := kMo k ot aMO (MO41)) (by subst eMO41; rfl) dX10_readsLine_29 (fun H locs G => ?_)
    refine lv_goto (tgt := 120) hx hb dX10_readsLine_30 (by decide) ?_
    refine lv_aload_n hx hb dX10_readsLine_120 rfl (lv_at hl 1 rfl) ?_
    obtain ⟨r42, hcr42, hf⟩ := bd_some hf
    refine p_R (st1 := [.int (bI r42)]) (run_V (rest := []) X (ctX10_isGood (SZ_ok t) ot aMO hcr42) mk_X10_isGood ml_X10_230 ⟨(Nat.le_of_ble_eq_true rfl), (Nat.le_of_ble_eq_true rfl)⟩ G [0, 1, 2, 3, 4, 5, 6, 7] rfl rfl 0 rfl rfl rfl hl.1 rfl (Nat.le_of_ble_eq_true rfl) dX10_readsLine_121 ⟨Nat.zero_le _, Nat.zero_le _⟩) rfl ?_
    refine lv_if_eq (tgt := 140) hx hb dX10_readsLine_124 (by decide) (fun c43 => ?_) (fun c43 => ?_)
    · replace hf := if_t hf c43
      cases hf
      exact e_mv X G dX10_readsLine_140
    · replace hf := if_f hf c43
      refine lv_aload_n hx hb dX10_readsLine_127 rfl (lv_at hl 1 rfl) ?_
      refine lv_bipush (v := 59) hx hb dX10_readsLine_128 (by decide) ?_
      obtain ⟨r44, hcr44, hf⟩ := bd_some hf
      refine p_N (st1 := [.int (bI r44.1)]) (wr := []) (ws' := kMo k ot aMO (r44.2)) (run_V (rest := []) X (ctX10_hasSign (SZ_ok t) ot aMO hcr44) mk_X10_hasSign ml_X10_263 ⟨(Nat.le_of_ble_eq_true rfl), (Nat.le_of_ble_eq_true rfl)⟩ G [0, 1, 2, 3, 4, 5, 6, 7] rfl rfl 0 rfl rfl rfl hl.1 rfl (Nat.le_of_ble_eq_true rfl) dX10_readsLine_130 ⟨Nat.zero_le _, Nat.zero_le _⟩) rfl G [0, 1, 2, 3, 4, 5, 6, 7] [] 8 rfl rfl rfl rfl rfl (by decide) (by decide) rfl (fun H locs G => ?_)
      refine lv_if_ne (tgt := 140) hx hb dX10_readsLine_133 (by decide) (fun c45 => ?_) (fun c45 => ?_)
      · replace hf := if_f hf c45
        cases hf
        exact e_mv X G dX10_readsLine_140
      · replace hf := if_t hf c45
        refine lv_aload_n hx hb dX10_readsLine_136 rfl (lv_at hl 1 rfl) ?_
        obtain ⟨r46, hcr46, hf⟩ := bd_some hf
        refine p_N (st1 := []) (wr := []) (ws' := kMo k ot aMO (r46)) (run_V (rest := []) X (ctX10_wrong (SZ_ok t) ot aMO hcr46) mk_X10_wrong ml_X10_237 ⟨(Nat.le_of_ble_eq_true rfl), (Nat.le_of_ble_eq_true rfl)⟩ G [0, 1, 2, 3, 4, 5, 6, 7] rfl rfl 0 rfl rfl rfl hl.1 rfl (Nat.le_of_ble_eq_true rfl) dX10_readsLine_137 ⟨Nat.zero_le _, Nat.zero_le _⟩) rfl G [0, 1, 2, 3, 4, 5, 6, 7] [] 8 rfl rfl rfl rfl rfl (by decide) (by decide) rfl (fun H locs G => ?_)
        cases hf
        exact e_mv X G dX10_readsLine_140
theorem mk_X10_readsLine : MV yX10_readsLine cX10_readsLine 3 none 0 := ⟨co_X10_readsLine, in_X10, im_X10_readsLine, se_X10_readsLine, by decide +kernel, by decide +kernel⟩
noncomputable def FX10_text_49  : MoT → Option ((MoT) ⊕ (MoT)) := fun stL10 =>
  (FX10_isGood stL10).bind fun r11 =>
  if (bI r11) = 0 then (
    some (.inr stL10)
  ) else (
    if (Mo_token stL10) = 0 then (
      some (.inr stL10)
    ) else (
      (FX10_readsLine stL10).bind fun r14 =>
      some (.inl r14)
    )
  )
noncomputable def FX10_text (MO : MoT) : Option (Int32 × MoT) :=
  nm (sMo_size0 MO (Mo_taped MO)) fun MO1 =>
  nm (sMo_taped MO1 (0 : Int32)) fun MO2 =>
  nm (sMo_faultKind MO2 (0 : Int32)) fun MO3 =>
  nm (sMo_faultPlace MO3 (-1 : Int32)) fun MO4 =>
  nm (sMo_alsoKind MO4 (0 : Int32)) fun MO5 =>
  nm (sMo_namedMany MO5 (0 : Int32)) fun MO6 =>
  nm (sMo_next MO6 (0 : Int32)) fun MO7 =>
  (FX10_firsts MO7 (1422 : Int32)).bind fun r8 =>
  (FX10_takes r8).bind fun r9 =>
  (itr FX10_text_49 r9).bind fun uL10 =>
  (FX10_judges uL10).bind fun r15 =>
  (FX10_isGood r15).bind fun r16 =>
  if (bI r16) = 0 then (
    some ((-1 : Int32), r15)
  ) else (
    (FX10_copies r15 (1422 : Int32) (0 : Int32) (474 : Int32)).bind fun r18 =>
    nm (sMo_undos r18 (0 : Int32)) fun MO19 =>
    (FX10_workers MO19).bind fun r20 =>
    some (r20, MO19)
  )
set_option maxHeartbeats 4000000 in
set_option maxRecDepth 100000 in
theorem ctX10_text {l : Launch} {D : va_G} {k : Nat → ClassId} (t : Nat → Nat) (ot : Nat) (aMO : Nat → Nat) {MO : MoT} {q : Int32 × MoT} (hf : FX10_text MO = some q) :
    CM l D k (SZ t) yX10_text cX10_text 1 (some .int) 6 138 [.ref ot] (some (.int q.1)) (kMo k ot aMO (MO)) (kMo k ot aMO (q.2)) := by
  refine CM.start (SZ_ok t) (by decide) (Nat.le_of_ble_eq_true rfl) ?_
  intro p e s m below meth c ls X hl G
  have hx := X.1
  have hb := X.2.1
  have hz := X.2.2.2.2.2.2.2.2.1
  have hl : lv_has ls 1 [(0, .ref ot)] := hl
  unfold FX10_text at hf
  refine lv_aload_n hx hb dX10_text_0 rfl (lv_at hl 0 rfl) ?_
  refine lv_aload_n hx hb dX10_text_1 rfl (lv_at hl 0 rfl) ?_
  refine r_get X inw_X10 G 0 rfl rfl 3 (by decide) fl_X10_158 (v := .int (Mo_taped MO)) rfl dX10_text_2 ?_
  obtain ⟨MO1, eMO1, hf⟩ := nm_some hf
  refine r_put X inw_X10 tyX10 tyX10_ok nmX10 G 0 rfl rfl 11 (by decide) fl_X10_189 rfl rfl rfl (Nat.le_of_ble_eq_true rfl) (ws' := kMo k ot aMO (MO1)) (by subst eMO1; rfl) dX10_text_5 (fun H locs G => ?_)
  refine lv_aload_n hx hb dX10_text_8 rfl (lv_at hl 0 rfl) ?_
  refine lv_iconst (v := 0) hx hb dX10_text_9 (by decide) ?_
  obtain ⟨MO2, eMO2, hf⟩ := nm_some hf
  refine r_put X inw_X10 tyX10 tyX10_ok nmX10 G 0 rfl rfl 3 (by decide) fl_X10_158 rfl rfl rfl (Nat.le_of_ble_eq_true rfl) (ws' := kMo k ot aMO (MO2)) (by subst eMO2; rfl) dX10_text_10 (fun H locs G => ?_)
  refine lv_aload_n hx hb dX10_text_13 rfl (lv_at hl 0 rfl) ?_
  refine lv_iconst (v := 0) hx hb dX10_text_14 (by decide) ?_
  obtain ⟨MO3, eMO3, hf⟩ := nm_some hf
  refine r_put X inw_X10 tyX10 tyX10_ok nmX10 G 0 rfl rfl 4 (by decide) fl_X10_186 rfl rfl rfl (Nat.le_of_ble_eq_true rfl) (ws' := kMo k ot aMO (MO3)) (by subst eMO3; rfl) dX10_text_15 (fun H locs G => ?_)
  refine lv_aload_n hx hb dX10_text_18 rfl (lv_at hl 0 rfl) ?_
  refine lv_iconst (v := -1) hx hb dX10_text_19 (by decide) ?_
  obtain ⟨MO4, eMO4, hf⟩ := nm_some hf
  refine r_put X inw_X10 tyX10 tyX10_ok nmX10 G 0 rfl rfl 5 (by decide) fl_X10_20 rfl rfl rfl (Nat.le_of_ble_eq_true rfl) (ws' := kMo k ot aMO (MO4)) (by subst eMO4; rfl) dX10_text_20 (fun H locs G => ?_)
  refine lv_aload_n hx hb dX10_text_23 rfl (lv_at hl 0 rfl) ?_
  refine lv_iconst (v := 0) hx hb dX10_text_24 (by decide) ?_
  obtain ⟨MO5, eMO5, hf⟩ := nm_some hf
  refine r_put X inw_X10 tyX10 tyX10_ok nmX10 G 0 rfl rfl 16 (by decide) fl_X10_224 rfl rfl rfl (Nat.le_of_ble_eq_true rfl) (ws' := kMo k ot aMO (MO5)) (by subst eMO5; rfl) dX10_text_25 (fun H locs G => ?_)
  refine lv_aload_n hx hb dX10_text_28 rfl (lv_at hl 0 rfl) ?_
  refine lv_iconst (v := 0) hx hb dX10_text_29 (by decide) ?_
  obtain ⟨MO6, eMO6, hf⟩ := nm_some hf
  refine r_put X inw_X10 tyX10 tyX10_ok nmX10 G 0 rfl rfl 21 (by decide) fl_X10_253 rfl rfl rfl (Nat.le_of_ble_eq_true rfl) (ws' := kMo k ot aMO (MO6)) (by subst eMO6; rfl) dX10_text_30 (fun H locs G => ?_)
  refine lv_aload_n hx hb dX10_text_33 rfl (lv_at hl 0 rfl) ?_
  refine lv_iconst (v := 0) hx hb dX10_text_34 (by decide) ?_
  obtain ⟨MO7, eMO7, hf⟩ := nm_some hf
  refine r_put X inw_X10 tyX10 tyX10_ok nmX10 G 0 rfl rfl 12 (by decide) fl_X10_192 rfl rfl rfl (Nat.le_of_ble_eq_true rfl) (ws' := kMo k ot aMO (MO7)) (by subst eMO7; rfl) dX10_text_35 (fun H locs G => ?_)
  refine lv_aload_n hx hb dX10_text_38 rfl (lv_at hl 0 rfl) ?_
  refine lv_sipush (v := 1422) hx hb dX10_text_39 (by decide) ?_
  obtain ⟨r8, hcr8, hf⟩ := bd_some hf
  refine p_N (st1 := []) (wr := []) (ws' := kMo k ot aMO (r8)) (run_V (rest := []) X (ctX10_firsts (SZ_ok t) ot aMO hcr8) mk_X10_firsts ml_X10_36 ⟨(Nat.le_of_ble_eq_true rfl), (Nat.le_of_ble_eq_true rfl)⟩ G [0, 1, 2, 3, 4, 5, 6, 7] rfl rfl 0 rfl rfl rfl hl.1 rfl (Nat.le_of_ble_eq_true rfl) dX10_text_42 ⟨Nat.zero_le _, Nat.zero_le _⟩) rfl G [0, 1, 2, 3, 4, 5, 6, 7] [] 8 rfl rfl rfl rfl rfl (by decide) (by decide) rfl (fun H locs G => ?_)
  refine lv_aload_n hx hb dX10_text_45 rfl (lv_at hl 0 rfl) ?_
  obtain ⟨r9, hcr9, hf⟩ := bd_some hf
  refine p_N (st1 := []) (wr := []) (ws' := kMo k ot aMO (r9)) (run_V (rest := []) X (ctX10_takes (SZ_ok t) ot aMO hcr9) mk_X10_takes ml_X10_234 ⟨(Nat.le_of_ble_eq_true rfl), (Nat.le_of_ble_eq_true rfl)⟩ G [0, 1, 2, 3, 4, 5, 6, 7] rfl rfl 0 rfl rfl rfl hl.1 rfl (Nat.le_of_ble_eq_true rfl) dX10_text_46 ⟨Nat.zero_le _, Nat.zero_le _⟩) rfl G [0, 1, 2, 3, 4, 5, 6, 7] [] 8 rfl rfl rfl rfl rfl (by decide) (by decide) rfl (fun H locs G => ?_)
  obtain ⟨exL10, hitL10, hfL10⟩ := bd_some hf
  obtain ⟨nL10, hitL10⟩ := itr_ex hitL10
  have KL10_0 : ∀ (u : MoT) (H : Heap) (locs : List Loc) (ls : Array Slot), exL10 = u → Wo D (wA (kMo k ot aMO (MO))) s.heap (kMo k ot aMO (u)) H locs → lv_has ls 1 [(0, .ref ot)] → W p l e (rmz 6 138) s m [.ref ot].toArray below meth c H locs 0 0 (MQ below (Qm D (some (.int q.1)) (kMo k ot aMO (MO)) (kMo k ot aMO (q.2))) [.ref ot].toArray s 0 0 (wA (kMo k ot aMO (MO)))) (F0 m 70 ls []) := by
    intro uL10 H locs ls hex G hl
    rw [hex] at hfL10
    have hf := hfL10
    refine lv_aload_n hx hb dX10_text_70 rfl (lv_at hl 0 rfl) ?_
    obtain ⟨r15, hcr15, hf⟩ := bd_some hf
    refine p_N (st1 := []) (wr := []) (ws' := kMo k ot aMO (r15)) (run_V (rest := []) X (ctX10_judges (SZ_ok t) ot aMO hcr15) mk_X10_judges ml_X10_284 ⟨(Nat.le_of_ble_eq_true rfl), (Nat.le_of_ble_eq_true rfl)⟩ G [0, 1, 2, 3, 4, 5, 6, 7] rfl rfl 0 rfl rfl rfl hl.1 rfl (Nat.le_of_ble_eq_true rfl) dX10_text_71 ⟨Nat.zero_le _, Nat.zero_le _⟩) rfl G [0, 1, 2, 3, 4, 5, 6, 7] [] 8 rfl rfl rfl rfl rfl (by decide) (by decide) rfl (fun H locs G => ?_)
    refine lv_aload_n hx hb dX10_text_74 rfl (lv_at hl 0 rfl) ?_
    obtain ⟨r16, hcr16, hf⟩ := bd_some hf
    refine p_R (st1 := [.int (bI r16)]) (run_V (rest := []) X (ctX10_isGood (SZ_ok t) ot aMO hcr16) mk_X10_isGood ml_X10_230 ⟨(Nat.le_of_ble_eq_true rfl), (Nat.le_of_ble_eq_true rfl)⟩ G [0, 1, 2, 3, 4, 5, 6, 7] rfl rfl 0 rfl rfl rfl hl.1 rfl (Nat.le_of_ble_eq_true rfl) dX10_text_75 ⟨Nat.zero_le _, Nat.zero_le _⟩) rfl ?_
    refine lv_if_ne (tgt := 83) hx hb dX10_text_78 (by decide) (fun c17 => ?_) (fun c17 => ?_)
    · replace hf := if_f hf c17
      refine lv_aload_n hx hb dX10_text_83 rfl (lv_at hl 0 rfl) ?_
      refine lv_sipush (v := 1422) hx hb dX10_text_84 (by decide) ?_
      refine lv_iconst (v := 0) hx hb dX10_text_87 (by decide) ?_
      refine lv_sipush (v := 474) hx hb dX10_text_88 (by decide) ?_
      obtain ⟨r18, hcr18, hf⟩ := bd_some hf
      refine p_N (st1 := []) (wr := []) (ws' := kMo k ot aMO (r18)) (run_V (rest := []) X (ctX10_copies (SZ_ok t) ot aMO hcr18) mk_X10_copies ml_X10_103 ⟨(Nat.le_of_ble_eq_true rfl), (Nat.le_of_ble_eq_true rfl)⟩ G [0, 1, 2, 3, 4, 5, 6, 7] rfl rfl 0 rfl rfl rfl hl.1 rfl (Nat.le_of_ble_eq_true rfl) dX10_text_91 ⟨Nat.zero_le _, Nat.zero_le _⟩) rfl G [0, 1, 2, 3, 4, 5, 6, 7] [] 8 rfl rfl rfl rfl rfl (by decide) (by decide) rfl (fun H locs G => ?_)
      refine lv_aload_n hx hb dX10_text_94 rfl (lv_at hl 0 rfl) ?_
      refine lv_iconst (v := 0) hx hb dX10_text_95 (by decide) ?_
      obtain ⟨MO19, eMO19, hf⟩ := nm_some hf
      refine r_put X inw_X10 tyX10 tyX10_ok nmX10 G 0 rfl rfl 6 (by decide) fl_X10_143 rfl rfl rfl (Nat.le_of_ble_eq_true rfl) (ws' := kMo k ot aMO (MO19)) (by subst eMO19; rfl) dX10_text_96 (fun H locs G => ?_)
      refine lv_aload_n hx hb dX10_text_99 rfl (lv_at hl 0 rfl) ?_
      obtain ⟨r20, hcr20, hf⟩ := bd_some hf
      refine p_R (st1 := [.int r20]) (run_V (rest := []) X (ctX10_workers (SZ_ok t) ot aMO hcr20) mk_X10_workers ml_X10_43 ⟨(Nat.le_of_ble_eq_true rfl), (Nat.le_of_ble_eq_true rfl)⟩ G [0, 1, 2, 3, 4, 5, 6, 7] rfl rfl 0 rfl rfl rfl hl.1 rfl (Nat.le_of_ble_eq_true rfl) dX10_text_100 ⟨Nat.zero_le _, Nat.zero_le _⟩) rfl ?_
      cases hf
      exact e_mi X G dX10_text_103
    · replace hf := if_t hf c17
      refine lv_iconst (v := -1) hx hb dX10_text_81 (by decide) ?_
      cases hf
      exact e_mi X G dX10_text_82
  have LL10 : ∀ (n : Nat) (stL10 : MoT) (H : Heap) (locs : List Loc) (ls : Array Slot), Wo D (wA (kMo k ot aMO (MO))) s.heap (kMo k ot aMO (stL10)) H locs → lv_has ls 1 [(0, .ref ot)] → it FX10_text_49 n stL10 = some exL10 → W p l e (rmz 6 138) s m [.ref ot].toArray below meth c H locs 0 0 (MQ below (Qm D (some (.int q.1)) (kMo k ot aMO (MO)) (kMo k ot aMO (q.2))) [.ref ot].toArray s 0 0 (wA (kMo k ot aMO (MO)))) (F0 m 49 ls []) := by
    intro n
    induction n with
    | zero =>
      intro stL10 H locs ls G hl hit
      exact (it_zero hit).elim
    | succ n ih =>
      intro stL10 H locs ls G hl hit
      obtain ⟨oL10, hf, hoL10⟩ := it_bd hit
      unfold FX10_text_49 at hf
      refine lv_aload_n hx hb dX10_text_49 rfl (lv_at hl 0 rfl) ?_
      obtain ⟨r11, hcr11, hf⟩ := bd_some hf
      refine p_R (st1 := [.int (bI r11)]) (run_V (rest := []) X (ctX10_isGood (SZ_ok t) ot aMO hcr11) mk_X10_isGood ml_X10_230 ⟨(Nat.le_of_ble_eq_true rfl), (Nat.le_of_ble_eq_true rfl)⟩ G [0, 1, 2, 3, 4, 5, 6, 7] rfl rfl 0 rfl rfl rfl hl.1 rfl (Nat.le_of_ble_eq_true rfl) dX10_text_50 ⟨Nat.zero_le _, Nat.zero_le _⟩) rfl ?_
      refine lv_if_eq (tgt := 70) hx hb dX10_text_53 (by decide) (fun c12 => ?_) (fun c12 => ?_)
      · replace hf := if_t hf c12
        cases hf
        exact KL10_0 stL10 _ _ _ (it_out hoL10) G (lv_sub hl [0] rfl)
      · replace hf := if_f hf c12
        refine lv_aload_n hx hb dX10_text_56 rfl (lv_at hl 0 rfl) ?_
        refine r_get X inw_X10 G 0 rfl rfl 13 (by decide) fl_X10_205 (v := .int (Mo_token stL10)) rfl dX10_text_57 ?_
        refine lv_if_eq (tgt := 70) hx hb dX10_text_60 (by decide) (fun c13 => ?_) (fun c13 => ?_)
        · replace hf := if_t hf c13
          cases hf
          exact KL10_0 stL10 _ _ _ (it_out hoL10) G (lv_sub hl [0] rfl)
        · replace hf := if_f hf c13
          refine lv_aload_n hx hb dX10_text_63 rfl (lv_at hl 0 rfl) ?_
          obtain ⟨r14, hcr14, hf⟩ := bd_some hf
          refine p_N (st1 := []) (wr := []) (ws' := kMo k ot aMO (r14)) (run_V (rest := []) X (ctX10_readsLine t ot aMO hcr14) mk_X10_readsLine ml_X10_281 ⟨(Nat.le_of_ble_eq_true rfl), (Nat.le_of_ble_eq_true rfl)⟩ G [0, 1, 2, 3, 4, 5, 6, 7] rfl rfl 0 rfl rfl rfl hl.1 rfl (Nat.le_of_ble_eq_true rfl) dX10_text_64 ⟨Nat.zero_le _, Nat.zero_le _⟩) rfl G [0, 1, 2, 3, 4, 5, 6, 7] [] 8 rfl rfl rfl rfl rfl (by decide) (by decide) rfl (fun H locs G => ?_)
          refine lv_goto (tgt := 49) hx hb dX10_text_67 (by decide) ?_
          cases hf
          exact ih r14 _ _ _ G (lv_sub hl [0] rfl) hoL10
  exact LL10 nL10 r9 _ _ _ G (lv_sub hl [0] rfl) hitL10
theorem mk_X10_text : MV yX10_text cX10_text 1 (some .int) 0 := ⟨co_X10_text, in_X10, im_X10_text, se_X10_text, by decide +kernel, by decide +kernel⟩
