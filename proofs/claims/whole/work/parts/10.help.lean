noncomputable def FJ7_fill_53178_5 (n1 : Nat) (v2 : Int32) (x1 : Int32) : (Int32 × (Nat → Int32)) → Option ((Int32 × (Nat → Int32)) ⊕ ((Nat → Int32))) := fun stL2 =>
  if x1 ≤ stL2.1 then (
    some (.inr stL2.2)
  ) else (
    ix stL2.1 n1 <|
    nm ((upd (stL2.2) (Int32.toNatClampNeg stL2.1) v2)) fun g5 =>
    nm (stL2.1 + 1) fun x6 =>
    some (.inl (x6, g5))
  )
noncomputable def FJ7_fill_53178 (n1 : Nat) (f1 : Nat → Int32) (v2 : Int32) : Option ((Nat → Int32)) :=
  nm (Int32.ofNat n1) fun x1 =>
  (itr (FJ7_fill_53178_5 n1 v2 x1) ((0 : Int32), f1)).bind fun uL2 =>
  some uL2
set_option maxHeartbeats 4000000 in
set_option maxRecDepth 100000 in
theorem ctJ7_fill_53178 {l : Launch} {D : va_G} {k : Nat → ClassId} {Z : ZT} (hZ : ZOK Z) (o1 : Nat) {n1 : Nat} {f1 : Nat → Int32} {v2 : Int32} {q : (Nat → Int32)} (hf : FJ7_fill_53178 n1 f1 v2 = some q) :
    CM l D k Z yJ7_fill_53178 cJ7_fill_53178 4 none 0 0 [.ref o1, .int v2] none ([(o1, .inl (k 0, n1, .inl (f1)))]) ([(o1, .inl (k 0, n1, .inl (q)))]) := by
  refine CM.start hZ (by decide) (Nat.le_of_ble_eq_true rfl) ?_
  intro p e s m below meth c ls X hl G
  have hx := X.1
  have hb := X.2.1
  have hl : lv_has ls 4 [(0, .ref o1), (1, .int v2)] := hl
  unfold FJ7_fill_53178 at hf
  refine lv_iconst (v := 0) hx hb dJ7_fill_53178_0 (by decide) ?_
  refine lv_istore_n (lv' := [(2, .int (0 : Int32)), (0, .ref o1), (1, .int v2)]) hx hb dJ7_fill_53178_1 rfl hl (by decide) rfl (fun ls hl => ?_)
  refine lv_aload_n hx hb dJ7_fill_53178_2 rfl (lv_at hl 1 rfl) ?_
  refine r_alen X G 0 0 rfl rfl (v := (Int32.ofNat n1)) (by first | rfl | decide) dJ7_fill_53178_3 ?_
  obtain ⟨x1, ex1, hf⟩ := nm_some hf
  refine r_top (congrArg Value.int ex1) ?_
  refine lv_istore_n (lv' := [(3, .int x1), (2, .int (0 : Int32)), (0, .ref o1), (1, .int v2)]) hx hb dJ7_fill_53178_4 rfl hl (by decide) rfl (fun ls hl => ?_)
  obtain ⟨exL2, hitL2, hfL2⟩ := bd_some hf
  obtain ⟨nL2, hitL2⟩ := itr_ex hitL2
  have KL2_0 : ∀ (u : (Nat → Int32)) (H : Heap) (locs : List Loc) (ls : Array Slot), exL2 = u → Wo D (wA ([(o1, .inl (k 0, n1, .inl (f1)))])) s.heap ([(o1, .inl (k 0, n1, .inl (u)))]) H locs → lv_has ls 4 [] → W p l e (rmz 0 0) s m [.ref o1, .int v2].toArray below meth c H locs 0 0 (MQ below (Qm D none ([(o1, .inl (k 0, n1, .inl (f1)))]) ([(o1, .inl (k 0, n1, .inl (q)))])) [.ref o1, .int v2].toArray s 0 0 (wA ([(o1, .inl (k 0, n1, .inl (f1)))]))) (F0 m 20 ls []) := by
    intro uL2 H locs ls hex G hl
    rw [hex] at hfL2
    have hf := hfL2
    cases hf
    exact e_mv X G dJ7_fill_53178_20
  have LL2 : ∀ (n : Nat) (stL2 : Int32 × (Nat → Int32)) (H : Heap) (locs : List Loc) (ls : Array Slot), Wo D (wA ([(o1, .inl (k 0, n1, .inl (f1)))])) s.heap ([(o1, .inl (k 0, n1, .inl (stL2.2)))]) H locs → lv_has ls 4 [(0, .ref o1), (1, .int v2), (2, .int (stL2.1)), (3, .int x1)] → it (FJ7_fill_53178_5 n1 v2 x1) n stL2 = some exL2 → W p l e (rmz 0 0) s m [.ref o1, .int v2].toArray below meth c H locs 0 0 (MQ below (Qm D none ([(o1, .inl (k 0, n1, .inl (f1)))]) ([(o1, .inl (k 0, n1, .inl (q)))])) [.ref o1, .int v2].toArray s 0 0 (wA ([(o1, .inl (k 0, n1, .inl (f1)))]))) (F0 m 5 ls []) := by
    intro n
    induction n with
    | zero =>
      intro stL2 H locs ls G hl hit
      exact (it_zero hit).elim
    | succ n ih =>
      intro stL2 H locs ls G hl hit
      obtain ⟨oL2, hf, hoL2⟩ := it_bd hit
      unfold FJ7_fill_53178_5 at hf
      refine lv_iload_n hx hb dJ7_fill_53178_5 rfl (lv_at hl 2 rfl) ?_
      refine lv_iload_n hx hb dJ7_fill_53178_6 rfl (lv_at hl 3 rfl) ?_
      refine lv_icmp_ge (tgt := 20) hx hb dJ7_fill_53178_7 (by decide) (fun c3 => ?_) (fun c3 => ?_)
      · replace hf := if_t hf c3
        cases hf
        exact KL2_0 stL2.2 _ _ _ (it_out hoL2) G (lv_sub hl [] rfl)
      · replace hf := if_f hf c3
        refine lv_aload_n hx hb dJ7_fill_53178_10 rfl (lv_at hl 0 rfl) ?_
        refine lv_iload_n hx hb dJ7_fill_53178_11 rfl (lv_at hl 2 rfl) ?_
        refine lv_iload_n hx hb dJ7_fill_53178_12 rfl (lv_at hl 1 rfl) ?_
        obtain ⟨h4, hf⟩ := ix_some hf
        obtain ⟨g5, eg5, hf⟩ := nm_some hf
        refine r_iast X G 0 rfl h4 (ws' := [(o1, .inl (k 0, n1, .inl (g5)))]) (by subst eg5; rfl) dJ7_fill_53178_13 (fun H locs G => ?_)
        obtain ⟨x6, ex6, hf⟩ := nm_some hf
        refine lv_iinc (v := x6) (lv' := [(2, .int x6), (0, .ref o1), (1, .int v2), (3, .int x1)]) hx hb dJ7_fill_53178_14 hl (k := 2) rfl (by subst ex6; rfl) (by decide) rfl (fun ls hl => ?_)
        refine lv_goto (tgt := 5) hx hb dJ7_fill_53178_17 (by decide) ?_
        cases hf
        exact ih (x6, g5) _ _ _ G (lv_sub hl [1, 2, 0, 3] rfl) hoL2
  exact LL2 nL2 ((0 : Int32), f1) _ _ _ G (lv_sub hl [2, 3, 1, 0] rfl) hitL2
theorem mk_J7_fill_53178 : MS yJ7_fill_53178 cJ7_fill_53178 4 none 2 := ⟨co_J7_fill_53178, in_J7, st_J7_fill_53178, trivial, by decide +kernel, by decide +kernel⟩
noncomputable def FJ6_bitCount_0f7a4 (v1 : Int32) : Option (Int32) :=
  nm (v1 - (((v1.toUInt32 >>> (Int32.toUInt32 (1 : Int32) &&& Int32.toUInt32 31)).toInt32) &&& (1431655765 : Int32))) fun x1 =>
  nm ((x1 &&& (858993459 : Int32)) + (((x1.toUInt32 >>> (Int32.toUInt32 (2 : Int32) &&& Int32.toUInt32 31)).toInt32) &&& (858993459 : Int32))) fun x2 =>
  nm ((x2 + ((x2.toUInt32 >>> (Int32.toUInt32 (4 : Int32) &&& Int32.toUInt32 31)).toInt32)) &&& (252645135 : Int32)) fun x3 =>
  nm (x3 + ((x3.toUInt32 >>> (Int32.toUInt32 (8 : Int32) &&& Int32.toUInt32 31)).toInt32)) fun x4 =>
  nm (x4 + ((x4.toUInt32 >>> (Int32.toUInt32 (16 : Int32) &&& Int32.toUInt32 31)).toInt32)) fun x5 =>
  some (x5 &&& (63 : Int32))
set_option maxHeartbeats 4000000 in
set_option maxRecDepth 100000 in
theorem ctJ6_bitCount_0f7a4 {l : Launch} {D : va_G} {k : Nat → ClassId} {Z : ZT} (hZ : ZOK Z)  {v1 : Int32} {q : Int32} (hf : FJ6_bitCount_0f7a4 v1 = some q) :
    CR l D k Z yJ6_bitCount_0f7a4 cJ6_bitCount_0f7a4 1 (some .int) 0 0 [.int v1] (some (.int q)) ([]) := by
  refine CR.start hZ (by decide) (Nat.le_of_ble_eq_true rfl) ?_
  intro p e s m below meth c ls X hl G
  have hx := X.1
  have hb := X.2.1
  have hl : lv_has ls 1 [(0, .int v1)] := hl
  unfold FJ6_bitCount_0f7a4 at hf
  refine lv_iload_n hx hb dJ6_bitCount_0f7a4_0 rfl (lv_at hl 0 rfl) ?_
  refine lv_iload_n hx hb dJ6_bitCount_0f7a4_1 rfl (lv_at hl 0 rfl) ?_
  refine lv_iconst (v := 1) hx hb dJ6_bitCount_0f7a4_2 (by decide) ?_
  refine lv_iushr (v := (v1.toUInt32 >>> (Int32.toUInt32 (1 : Int32) &&& Int32.toUInt32 31)).toInt32) hx hb dJ6_bitCount_0f7a4_3 rfl ?_
  refine lv_ldcw (v := 1431655765) hx hb X.2.2.2.2.2.1 (X.2.2.2.2.2.2.1.use ck_J6_265) dJ6_bitCount_0f7a4_4 ?_
  refine lv_iand hx hb dJ6_bitCount_0f7a4_7 ?_
  refine lv_isub hx hb dJ6_bitCount_0f7a4_8 ?_
  obtain ⟨x1, ex1, hf⟩ := nm_some hf
  refine r_top (congrArg Value.int ex1) ?_
  refine lv_istore_n (lv' := [(0, .int x1)]) hx hb dJ6_bitCount_0f7a4_9 rfl hl (by decide) rfl (fun ls hl => ?_)
  refine lv_iload_n hx hb dJ6_bitCount_0f7a4_10 rfl (lv_at hl 0 rfl) ?_
  refine lv_ldcw (v := 858993459) hx hb X.2.2.2.2.2.1 (X.2.2.2.2.2.2.1.use ck_J6_266) dJ6_bitCount_0f7a4_11 ?_
  refine lv_iand hx hb dJ6_bitCount_0f7a4_14 ?_
  refine lv_iload_n hx hb dJ6_bitCount_0f7a4_15 rfl (lv_at hl 0 rfl) ?_
  refine lv_iconst (v := 2) hx hb dJ6_bitCount_0f7a4_16 (by decide) ?_
  refine lv_iushr (v := (x1.toUInt32 >>> (Int32.toUInt32 (2 : Int32) &&& Int32.toUInt32 31)).toInt32) hx hb dJ6_bitCount_0f7a4_17 rfl ?_
  refine lv_ldcw (v := 858993459) hx hb X.2.2.2.2.2.1 (X.2.2.2.2.2.2.1.use ck_J6_266) dJ6_bitCount_0f7a4_18 ?_
  refine lv_iand hx hb dJ6_bitCount_0f7a4_21 ?_
  refine lv_iadd hx hb dJ6_bitCount_0f7a4_22 ?_
  obtain ⟨x2, ex2, hf⟩ := nm_some hf
  refine r_top (congrArg Value.int ex2) ?_
  refine lv_istore_n (lv' := [(0, .int x2)]) hx hb dJ6_bitCount_0f7a4_23 rfl hl (by decide) rfl (fun ls hl => ?_)
  refine lv_iload_n hx hb dJ6_bitCount_0f7a4_24 rfl (lv_at hl 0 rfl) ?_
  refine lv_iload_n hx hb dJ6_bitCount_0f7a4_25 rfl (lv_at hl 0 rfl) ?_
  refine lv_iconst (v := 4) hx hb dJ6_bitCount_0f7a4_26 (by decide) ?_
  refine lv_iushr (v := (x2.toUInt32 >>> (Int32.toUInt32 (4 : Int32) &&& Int32.toUInt32 31)).toInt32) hx hb dJ6_bitCount_0f7a4_27 rfl ?_
  refine lv_iadd hx hb dJ6_bitCount_0f7a4_28 ?_
  refine lv_ldcw (v := 252645135) hx hb X.2.2.2.2.2.1 (X.2.2.2.2.2.2.1.use ck_J6_267) dJ6_bitCount_0f7a4_29 ?_
  refine lv_iand hx hb dJ6_bitCount_0f7a4_32 ?_
  obtain ⟨x3, ex3, hf⟩ := nm_some hf
  refine r_top (congrArg Value.int ex3) ?_
  refine lv_istore_n (lv' := [(0, .int x3)]) hx hb dJ6_bitCount_0f7a4_33 rfl hl (by decide) rfl (fun ls hl => ?_)
  refine lv_iload_n hx hb dJ6_bitCount_0f7a4_34 rfl (lv_at hl 0 rfl) ?_
  refine lv_iload_n hx hb dJ6_bitCount_0f7a4_35 rfl (lv_at hl 0 rfl) ?_
  refine lv_bipush (v := 8) hx hb dJ6_bitCount_0f7a4_36 (by decide) ?_
  refine lv_iushr (v := (x3.toUInt32 >>> (Int32.toUInt32 (8 : Int32) &&& Int32.toUInt32 31)).toInt32) hx hb dJ6_bitCount_0f7a4_38 rfl ?_
  refine lv_iadd hx hb dJ6_bitCount_0f7a4_39 ?_
  obtain ⟨x4, ex4, hf⟩ := nm_some hf
  refine r_top (congrArg Value.int ex4) ?_
  refine lv_istore_n (lv' := [(0, .int x4)]) hx hb dJ6_bitCount_0f7a4_40 rfl hl (by decide) rfl (fun ls hl => ?_)
  refine lv_iload_n hx hb dJ6_bitCount_0f7a4_41 rfl (lv_at hl 0 rfl) ?_
  refine lv_iload_n hx hb dJ6_bitCount_0f7a4_42 rfl (lv_at hl 0 rfl) ?_
  refine lv_bipush (v := 16) hx hb dJ6_bitCount_0f7a4_43 (by decide) ?_
  refine lv_iushr (v := (x4.toUInt32 >>> (Int32.toUInt32 (16 : Int32) &&& Int32.toUInt32 31)).toInt32) hx hb dJ6_bitCount_0f7a4_45 rfl ?_
  refine lv_iadd hx hb dJ6_bitCount_0f7a4_46 ?_
  obtain ⟨x5, ex5, hf⟩ := nm_some hf
  refine r_top (congrArg Value.int ex5) ?_
  refine lv_istore_n (lv' := [(0, .int x5)]) hx hb dJ6_bitCount_0f7a4_47 rfl hl (by decide) rfl (fun ls hl => ?_)
  refine lv_iload_n hx hb dJ6_bitCount_0f7a4_48 rfl (lv_at hl 0 rfl) ?_
  refine lv_bipush (v := 63) hx hb dJ6_bitCount_0f7a4_49 (by decide) ?_
  refine lv_iand hx hb dJ6_bitCount_0f7a4_51 ?_
  cases hf
  exact e_ri X dJ6_bitCount_0f7a4_52
theorem mk_J6_bitCount_0f7a4 : MS yJ6_bitCount_0f7a4 cJ6_bitCount_0f7a4 1 (some .int) 1 := ⟨co_J6_bitCount_0f7a4, in_J6, st_J6_bitCount_0f7a4, trivial, by decide +kernel, by decide +kernel⟩
noncomputable def FJ6_numberOfTrailingZeros_0f7a4_j62  (vJ5 : Int32 × Int32) : Option (Int32) :=
  if vJ5.1 ≤ (4 : Int32) then (
    some (vJ5.2 + ((vJ5.1.toUInt32 >>> (Int32.toUInt32 (1 : Int32) &&& Int32.toUInt32 31)).toInt32))
  ) else (
    nm (vJ5.2 + 2) fun x7 =>
    nm ((vJ5.1.toUInt32 >>> (Int32.toUInt32 (2 : Int32) &&& Int32.toUInt32 31)).toInt32) fun x8 =>
    some (x7 + ((x8.toUInt32 >>> (Int32.toUInt32 (1 : Int32) &&& Int32.toUInt32 31)).toInt32))
  )
noncomputable def FJ6_numberOfTrailingZeros_0f7a4_j49  (vJ4 : Int32 × Int32) : Option (Int32) :=
  if vJ4.1 ≤ (16 : Int32) then (
    FJ6_numberOfTrailingZeros_0f7a4_j62  (vJ4.1, vJ4.2)
  ) else (
    nm (vJ4.2 + 4) fun x10 =>
    nm ((vJ4.1.toUInt32 >>> (Int32.toUInt32 (4 : Int32) &&& Int32.toUInt32 31)).toInt32) fun x11 =>
    FJ6_numberOfTrailingZeros_0f7a4_j62  (x11, x10)
  )
noncomputable def FJ6_numberOfTrailingZeros_0f7a4_j34  (vJ3 : Int32 × Int32) : Option (Int32) :=
  if vJ3.1 ≤ (256 : Int32) then (
    FJ6_numberOfTrailingZeros_0f7a4_j49  (vJ3.1, vJ3.2)
  ) else (
    nm (vJ3.2 + 8) fun x13 =>
    nm ((vJ3.1.toUInt32 >>> (Int32.toUInt32 (8 : Int32) &&& Int32.toUInt32 31)).toInt32) fun x14 =>
    FJ6_numberOfTrailingZeros_0f7a4_j49  (x14, x13)
  )
noncomputable def FJ6_numberOfTrailingZeros_0f7a4 (v1 : Int32) : Option (Int32) :=
  nm ((v1 ^^^ (-1 : Int32)) &&& (v1 - (1 : Int32))) fun x1 =>
  if 0 < x1 then (
    if x1 ≤ (65536 : Int32) then (
      FJ6_numberOfTrailingZeros_0f7a4_j34  (x1, (1 : Int32))
    ) else (
      nm ((1 : Int32) + 16) fun x16 =>
      nm ((x1.toUInt32 >>> (Int32.toUInt32 (16 : Int32) &&& Int32.toUInt32 31)).toInt32) fun x17 =>
      FJ6_numberOfTrailingZeros_0f7a4_j34  (x17, x16)
    )
  ) else (
    some (x1 &&& (32 : Int32))
  )
set_option maxHeartbeats 4000000 in
set_option maxRecDepth 100000 in
theorem ctJ6_numberOfTrailingZeros_0f7a4 {l : Launch} {D : va_G} {k : Nat → ClassId} {Z : ZT} (hZ : ZOK Z)  {v1 : Int32} {q : Int32} (hf : FJ6_numberOfTrailingZeros_0f7a4 v1 = some q) :
    CR l D k Z yJ6_numberOfTrailingZeros_0f7a4 cJ6_numberOfTrailingZeros_0f7a4 2 (some .int) 0 0 [.int v1] (some (.int q)) ([]) := by
  refine CR.start hZ (by decide) (Nat.le_of_ble_eq_true rfl) ?_
  intro p e s m below meth c ls X hl G
  have hx := X.1
  have hb := X.2.1
  have hl : lv_has ls 2 [(0, .int v1)] := hl
  unfold FJ6_numberOfTrailingZeros_0f7a4 at hf
  refine lv_iload_n hx hb dJ6_numberOfTrailingZeros_0f7a4_0 rfl (lv_at hl 0 rfl) ?_
  refine lv_iconst (v := -1) hx hb dJ6_numberOfTrailingZeros_0f7a4_1 (by decide) ?_
  refine lv_ixor hx hb dJ6_numberOfTrailingZeros_0f7a4_2 ?_
  refine lv_iload_n hx hb dJ6_numberOfTrailingZeros_0f7a4_3 rfl (lv_at hl 0 rfl) ?_
  refine lv_iconst (v := 1) hx hb dJ6_numberOfTrailingZeros_0f7a4_4 (by decide) ?_
  refine lv_isub hx hb dJ6_numberOfTrailingZeros_0f7a4_5 ?_
  refine lv_iand hx hb dJ6_numberOfTrailingZeros_0f7a4_6 ?_
  obtain ⟨x1, ex1, hf⟩ := nm_some hf
  refine r_top (congrArg Value.int ex1) ?_
  refine lv_istore_n (lv' := [(0, .int x1)]) hx hb dJ6_numberOfTrailingZeros_0f7a4_7 rfl hl (by decide) rfl (fun ls hl => ?_)
  refine lv_iload_n hx hb dJ6_numberOfTrailingZeros_0f7a4_8 rfl (lv_at hl 0 rfl) ?_
  refine lv_if_gt (tgt := 17) hx hb dJ6_numberOfTrailingZeros_0f7a4_9 (by decide) (fun c2 => ?_) (fun c2 => ?_)
  · replace hf := if_t hf c2
    refine lv_iconst (v := 1) hx hb dJ6_numberOfTrailingZeros_0f7a4_17 (by decide) ?_
    refine lv_istore_n (lv' := [(1, .int (1 : Int32)), (0, .int x1)]) hx hb dJ6_numberOfTrailingZeros_0f7a4_18 rfl hl (by decide) rfl (fun ls hl => ?_)
    refine lv_iload_n hx hb dJ6_numberOfTrailingZeros_0f7a4_19 rfl (lv_at hl 1 rfl) ?_
    refine lv_ldcw (v := 65536) hx hb X.2.2.2.2.2.1 (X.2.2.2.2.2.2.1.use ck_J6_264) dJ6_numberOfTrailingZeros_0f7a4_20 ?_
    have JJ3 : ∀ (vJ3 : Int32 × Int32) (ls : Array Slot), lv_has ls 2 [(0, .int (vJ3.1)), (1, .int (vJ3.2))] → FJ6_numberOfTrailingZeros_0f7a4_j34  vJ3 = some q → W p l e (rmz 0 0) s m [.int v1].toArray below meth c s.heap [] 0 0 (MQ below (Qr (some (.int q))) [.int v1].toArray s 0 0 (fun _ => False)) (F0 m 34 ls []) := by
      intro vJ3 ls hl hf
      unfold FJ6_numberOfTrailingZeros_0f7a4_j34 at hf
      refine lv_iload_n hx hb dJ6_numberOfTrailingZeros_0f7a4_34 rfl (lv_at hl 0 rfl) ?_
      refine lv_sipush (v := 256) hx hb dJ6_numberOfTrailingZeros_0f7a4_35 (by decide) ?_
      have JJ4 : ∀ (vJ4 : Int32 × Int32) (ls : Array Slot), lv_has ls 2 [(0, .int (vJ4.1)), (1, .int (vJ4.2))] → FJ6_numberOfTrailingZeros_0f7a4_j49  vJ4 = some q → W p l e (rmz 0 0) s m [.int v1].toArray below meth c s.heap [] 0 0 (MQ below (Qr (some (.int q))) [.int v1].toArray s 0 0 (fun _ => False)) (F0 m 49 ls []) := by
        intro vJ4 ls hl hf
        unfold FJ6_numberOfTrailingZeros_0f7a4_j49 at hf
        refine lv_iload_n hx hb dJ6_numberOfTrailingZeros_0f7a4_49 rfl (lv_at hl 0 rfl) ?_
        refine lv_bipush (v := 16) hx hb dJ6_numberOfTrailingZeros_0f7a4_50 (by decide) ?_
        have JJ5 : ∀ (vJ5 : Int32 × Int32) (ls : Array Slot), lv_has ls 2 [(0, .int (vJ5.1)), (1, .int (vJ5.2))] → FJ6_numberOfTrailingZeros_0f7a4_j62  vJ5 = some q → W p l e (rmz 0 0) s m [.int v1].toArray below meth c s.heap [] 0 0 (MQ below (Qr (some (.int q))) [.int v1].toArray s 0 0 (fun _ => False)) (F0 m 62 ls []) := by
          intro vJ5 ls hl hf
          unfold FJ6_numberOfTrailingZeros_0f7a4_j62 at hf
          refine lv_iload_n hx hb dJ6_numberOfTrailingZeros_0f7a4_62 rfl (lv_at hl 0 rfl) ?_
          refine lv_iconst (v := 4) hx hb dJ6_numberOfTrailingZeros_0f7a4_63 (by decide) ?_
          refine lv_icmp_le (tgt := 74) hx hb dJ6_numberOfTrailingZeros_0f7a4_64 (by decide) (fun c6 => ?_) (fun c6 => ?_)
          · replace hf := if_t hf c6
            refine lv_iload_n hx hb dJ6_numberOfTrailingZeros_0f7a4_74 rfl (lv_at hl 1 rfl) ?_
            refine lv_iload_n hx hb dJ6_numberOfTrailingZeros_0f7a4_75 rfl (lv_at hl 0 rfl) ?_
            refine lv_iconst (v := 1) hx hb dJ6_numberOfTrailingZeros_0f7a4_76 (by decide) ?_
            refine lv_iushr (v := (vJ5.1.toUInt32 >>> (Int32.toUInt32 (1 : Int32) &&& Int32.toUInt32 31)).toInt32) hx hb dJ6_numberOfTrailingZeros_0f7a4_77 rfl ?_
            refine lv_iadd hx hb dJ6_numberOfTrailingZeros_0f7a4_78 ?_
            cases hf
            exact e_ri X dJ6_numberOfTrailingZeros_0f7a4_79
          · replace hf := if_f hf c6
            obtain ⟨x7, ex7, hf⟩ := nm_some hf
            refine lv_iinc (v := x7) (lv' := [(1, .int x7), (0, .int (vJ5.1))]) hx hb dJ6_numberOfTrailingZeros_0f7a4_67 hl (k := 1) rfl (by subst ex7; rfl) (by decide) rfl (fun ls hl => ?_)
            refine lv_iload_n hx hb dJ6_numberOfTrailingZeros_0f7a4_70 rfl (lv_at hl 1 rfl) ?_
            refine lv_iconst (v := 2) hx hb dJ6_numberOfTrailingZeros_0f7a4_71 (by decide) ?_
            refine lv_iushr (v := (vJ5.1.toUInt32 >>> (Int32.toUInt32 (2 : Int32) &&& Int32.toUInt32 31)).toInt32) hx hb dJ6_numberOfTrailingZeros_0f7a4_72 rfl ?_
            obtain ⟨x8, ex8, hf⟩ := nm_some hf
            refine r_top (congrArg Value.int ex8) ?_
            refine lv_istore_n (lv' := [(0, .int x8), (1, .int x7)]) hx hb dJ6_numberOfTrailingZeros_0f7a4_73 rfl hl (by decide) rfl (fun ls hl => ?_)
            refine lv_iload_n hx hb dJ6_numberOfTrailingZeros_0f7a4_74 rfl (lv_at hl 1 rfl) ?_
            refine lv_iload_n hx hb dJ6_numberOfTrailingZeros_0f7a4_75 rfl (lv_at hl 0 rfl) ?_
            refine lv_iconst (v := 1) hx hb dJ6_numberOfTrailingZeros_0f7a4_76 (by decide) ?_
            refine lv_iushr (v := (x8.toUInt32 >>> (Int32.toUInt32 (1 : Int32) &&& Int32.toUInt32 31)).toInt32) hx hb dJ6_numberOfTrailingZeros_0f7a4_77 rfl ?_
            refine lv_iadd hx hb dJ6_numberOfTrailingZeros_0f7a4_78 ?_
            cases hf
            exact e_ri X dJ6_numberOfTrailingZeros_0f7a4_79
        refine lv_icmp_le (tgt := 62) hx hb dJ6_numberOfTrailingZeros_0f7a4_52 (by decide) (fun c9 => ?_) (fun c9 => ?_)
        · replace hf := if_t hf c9
          exact JJ5 (vJ4.1, vJ4.2) _ (lv_sub hl [0, 1] rfl) hf
        · replace hf := if_f hf c9
          obtain ⟨x10, ex10, hf⟩ := nm_some hf
          refine lv_iinc (v := x10) (lv' := [(1, .int x10), (0, .int (vJ4.1))]) hx hb dJ6_numberOfTrailingZeros_0f7a4_55 hl (k := 1) rfl (by subst ex10; rfl) (by decide) rfl (fun ls hl => ?_)
          refine lv_iload_n hx hb dJ6_numberOfTrailingZeros_0f7a4_58 rfl (lv_at hl 1 rfl) ?_
          refine lv_iconst (v := 4) hx hb dJ6_numberOfTrailingZeros_0f7a4_59 (by decide) ?_
          refine lv_iushr (v := (vJ4.1.toUInt32 >>> (Int32.toUInt32 (4 : Int32) &&& Int32.toUInt32 31)).toInt32) hx hb dJ6_numberOfTrailingZeros_0f7a4_60 rfl ?_
          obtain ⟨x11, ex11, hf⟩ := nm_some hf
          refine r_top (congrArg Value.int ex11) ?_
          refine lv_istore_n (lv' := [(0, .int x11), (1, .int x10)]) hx hb dJ6_numberOfTrailingZeros_0f7a4_61 rfl hl (by decide) rfl (fun ls hl => ?_)
          exact JJ5 (x11, x10) _ (lv_sub hl [0, 1] rfl) hf
      refine lv_icmp_le (tgt := 49) hx hb dJ6_numberOfTrailingZeros_0f7a4_38 (by decide) (fun c12 => ?_) (fun c12 => ?_)
      · replace hf := if_t hf c12
        exact JJ4 (vJ3.1, vJ3.2) _ (lv_sub hl [0, 1] rfl) hf
      · replace hf := if_f hf c12
        obtain ⟨x13, ex13, hf⟩ := nm_some hf
        refine lv_iinc (v := x13) (lv' := [(1, .int x13), (0, .int (vJ3.1))]) hx hb dJ6_numberOfTrailingZeros_0f7a4_41 hl (k := 1) rfl (by subst ex13; rfl) (by decide) rfl (fun ls hl => ?_)
        refine lv_iload_n hx hb dJ6_numberOfTrailingZeros_0f7a4_44 rfl (lv_at hl 1 rfl) ?_
        refine lv_bipush (v := 8) hx hb dJ6_numberOfTrailingZeros_0f7a4_45 (by decide) ?_
        refine lv_iushr (v := (vJ3.1.toUInt32 >>> (Int32.toUInt32 (8 : Int32) &&& Int32.toUInt32 31)).toInt32) hx hb dJ6_numberOfTrailingZeros_0f7a4_47 rfl ?_
        obtain ⟨x14, ex14, hf⟩ := nm_some hf
        refine r_top (congrArg Value.int ex14) ?_
        refine lv_istore_n (lv' := [(0, .int x14), (1, .int x13)]) hx hb dJ6_numberOfTrailingZeros_0f7a4_48 rfl hl (by decide) rfl (fun ls hl => ?_)
        exact JJ4 (x14, x13) _ (lv_sub hl [0, 1] rfl) hf
    refine lv_icmp_le (tgt := 34) hx hb dJ6_numberOfTrailingZeros_0f7a4_23 (by decide) (fun c15 => ?_) (fun c15 => ?_)
    · replace hf := if_t hf c15
      exact JJ3 (x1, (1 : Int32)) _ (lv_sub hl [1, 0] rfl) hf
    · replace hf := if_f hf c15
      obtain ⟨x16, ex16, hf⟩ := nm_some hf
      refine lv_iinc (v := x16) (lv' := [(1, .int x16), (0, .int x1)]) hx hb dJ6_numberOfTrailingZeros_0f7a4_26 hl (k := 0) rfl (by subst ex16; rfl) (by decide) rfl (fun ls hl => ?_)
      refine lv_iload_n hx hb dJ6_numberOfTrailingZeros_0f7a4_29 rfl (lv_at hl 1 rfl) ?_
      refine lv_bipush (v := 16) hx hb dJ6_numberOfTrailingZeros_0f7a4_30 (by decide) ?_
      refine lv_iushr (v := (x1.toUInt32 >>> (Int32.toUInt32 (16 : Int32) &&& Int32.toUInt32 31)).toInt32) hx hb dJ6_numberOfTrailingZeros_0f7a4_32 rfl ?_
      obtain ⟨x17, ex17, hf⟩ := nm_some hf
      refine r_top (congrArg Value.int ex17) ?_
      refine lv_istore_n (lv' := [(0, .int x17), (1, .int x16)]) hx hb dJ6_numberOfTrailingZeros_0f7a4_33 rfl hl (by decide) rfl (fun ls hl => ?_)
      exact JJ3 (x17, x16) _ (lv_sub hl [0, 1] rfl) hf
  · replace hf := if_f hf c2
    refine lv_iload_n hx hb dJ6_numberOfTrailingZeros_0f7a4_12 rfl (lv_at hl 0 rfl) ?_
    refine lv_bipush (v := 32) hx hb dJ6_numberOfTrailingZeros_0f7a4_13 (by decide) ?_
    refine lv_iand hx hb dJ6_numberOfTrailingZeros_0f7a4_15 ?_
    cases hf
    exact e_ri X dJ6_numberOfTrailingZeros_0f7a4_16
theorem mk_J6_numberOfTrailingZeros_0f7a4 : MS yJ6_numberOfTrailingZeros_0f7a4 cJ6_numberOfTrailingZeros_0f7a4 2 (some .int) 1 := ⟨co_J6_numberOfTrailingZeros_0f7a4, in_J6, st_J6_numberOfTrailingZeros_0f7a4, trivial, by decide +kernel, by decide +kernel⟩
noncomputable def FX9_at (n1 : Nat) (f1 : Nat → Int32) (v2 : Int32) : Option (Int32) :=
  if v2 < 0 then (
    some (-1 : Int32)
  ) else (
    if (Int32.ofNat n1) ≤ v2 then (
      some (-1 : Int32)
    ) else (
      ix v2 n1 <|
      some (f1 (Int32.toNatClampNeg v2))
    )
  )
set_option maxHeartbeats 4000000 in
set_option maxRecDepth 100000 in
theorem ctX9_at {l : Launch} {D : va_G} {k : Nat → ClassId} {Z : ZT} (hZ : ZOK Z) (o1 : Nat) {n1 : Nat} {f1 : Nat → Int32} {v2 : Int32} {q : Int32} (hf : FX9_at n1 f1 v2 = some q) :
    CR l D k Z yX9_at cX9_at 2 (some .int) 0 0 [.ref o1, .int v2] (some (.int q)) ([(o1, .inl (k 0, n1, .inl (f1)))]) := by
  refine CR.start hZ (by decide) (Nat.le_of_ble_eq_true rfl) ?_
  intro p e s m below meth c ls X hl G
  have hx := X.1
  have hb := X.2.1
  have hl : lv_has ls 2 [(0, .ref o1), (1, .int v2)] := hl
  unfold FX9_at at hf
  refine lv_iload_n hx hb dX9_at_0 rfl (lv_at hl 1 rfl) ?_
  refine lv_if_lt (tgt := 16) hx hb dX9_at_1 (by decide) (fun c1 => ?_) (fun c1 => ?_)
  · replace hf := if_t hf c1
    refine lv_iconst (v := -1) hx hb dX9_at_16 (by decide) ?_
    cases hf
    exact e_ri X dX9_at_17
  · replace hf := if_f hf c1
    refine lv_iload_n hx hb dX9_at_4 rfl (lv_at hl 1 rfl) ?_
    refine lv_aload_n hx hb dX9_at_5 rfl (lv_at hl 0 rfl) ?_
    refine r_alen X G 0 0 rfl rfl (v := (Int32.ofNat n1)) (by first | rfl | decide) dX9_at_6 ?_
    refine lv_icmp_ge (tgt := 16) hx hb dX9_at_7 (by decide) (fun c2 => ?_) (fun c2 => ?_)
    · replace hf := if_t hf c2
      refine lv_iconst (v := -1) hx hb dX9_at_16 (by decide) ?_
      cases hf
      exact e_ri X dX9_at_17
    · replace hf := if_f hf c2
      refine lv_aload_n hx hb dX9_at_10 rfl (lv_at hl 0 rfl) ?_
      refine lv_iload_n hx hb dX9_at_11 rfl (lv_at hl 1 rfl) ?_
      obtain ⟨h3, hf⟩ := ix_some hf
      refine r_iald X G 0 rfl h3 dX9_at_12 ?_
      refine lv_goto (tgt := 17) hx hb dX9_at_13 (by decide) ?_
      cases hf
      exact e_ri X dX9_at_17
theorem mk_X9_at : MS yX9_at cX9_at 2 (some .int) 2 := ⟨co_X9_at, in_X9, st_X9_at, trivial, by decide +kernel, by decide +kernel⟩
noncomputable def FX9_set (n1 : Nat) (f1 : Nat → Int32) (v2 : Int32) (v3 : Int32) : Option ((Nat → Int32)) :=
  if v2 < 0 then (
    some f1
  ) else (
    if (Int32.ofNat n1) ≤ v2 then (
      some f1
    ) else (
      ix v2 n1 <|
      nm ((upd (f1) (Int32.toNatClampNeg v2) v3)) fun g4 =>
      some g4
    )
  )
set_option maxHeartbeats 4000000 in
set_option maxRecDepth 100000 in
theorem ctX9_set {l : Launch} {D : va_G} {k : Nat → ClassId} {Z : ZT} (hZ : ZOK Z) (o1 : Nat) {n1 : Nat} {f1 : Nat → Int32} {v2 : Int32} {v3 : Int32} {q : (Nat → Int32)} (hf : FX9_set n1 f1 v2 v3 = some q) :
    CM l D k Z yX9_set cX9_set 3 none 0 0 [.ref o1, .int v2, .int v3] none ([(o1, .inl (k 0, n1, .inl (f1)))]) ([(o1, .inl (k 0, n1, .inl (q)))]) := by
  refine CM.start hZ (by decide) (Nat.le_of_ble_eq_true rfl) ?_
  intro p e s m below meth c ls X hl G
  have hx := X.1
  have hb := X.2.1
  have hl : lv_has ls 3 [(0, .ref o1), (1, .int v2), (2, .int v3)] := hl
  unfold FX9_set at hf
  refine lv_iload_n hx hb dX9_set_0 rfl (lv_at hl 1 rfl) ?_
  refine lv_if_lt (tgt := 14) hx hb dX9_set_1 (by decide) (fun c1 => ?_) (fun c1 => ?_)
  · replace hf := if_t hf c1
    cases hf
    exact e_mv X G dX9_set_14
  · replace hf := if_f hf c1
    refine lv_iload_n hx hb dX9_set_4 rfl (lv_at hl 1 rfl) ?_
    refine lv_aload_n hx hb dX9_set_5 rfl (lv_at hl 0 rfl) ?_
    refine r_alen X G 0 0 rfl rfl (v := (Int32.ofNat n1)) (by first | rfl | decide) dX9_set_6 ?_
    refine lv_icmp_ge (tgt := 14) hx hb dX9_set_7 (by decide) (fun c2 => ?_) (fun c2 => ?_)
    · replace hf := if_t hf c2
      cases hf
      exact e_mv X G dX9_set_14
    · replace hf := if_f hf c2
      refine lv_aload_n hx hb dX9_set_10 rfl (lv_at hl 0 rfl) ?_
      refine lv_iload_n hx hb dX9_set_11 rfl (lv_at hl 1 rfl) ?_
      refine lv_iload_n hx hb dX9_set_12 rfl (lv_at hl 2 rfl) ?_
      obtain ⟨h3, hf⟩ := ix_some hf
      obtain ⟨g4, eg4, hf⟩ := nm_some hf
      refine r_iast X G 0 rfl h3 (ws' := [(o1, .inl (k 0, n1, .inl (g4)))]) (by subst eg4; rfl) dX9_set_13 (fun H locs G => ?_)
      cases hf
      exact e_mv X G dX9_set_14
theorem mk_X9_set : MS yX9_set cX9_set 3 none 3 := ⟨co_X9_set, in_X9, st_X9_set, trivial, by decide +kernel, by decide +kernel⟩
noncomputable def FX9_add (n1 : Nat) (f1 : Nat → Int32) (v2 : Int32) (v3 : Int32) : Option ((Nat → Int32)) :=
  if v2 < 0 then (
    some f1
  ) else (
    if (Int32.ofNat n1) ≤ v2 then (
      some f1
    ) else (
      ix v2 n1 <|
      ix v2 n1 <|
      nm ((upd (f1) (Int32.toNatClampNeg v2) ((f1 (Int32.toNatClampNeg v2)) + v3))) fun g5 =>
      some g5
    )
  )
set_option maxHeartbeats 4000000 in
set_option maxRecDepth 100000 in
theorem ctX9_add {l : Launch} {D : va_G} {k : Nat → ClassId} {Z : ZT} (hZ : ZOK Z) (o1 : Nat) {n1 : Nat} {f1 : Nat → Int32} {v2 : Int32} {v3 : Int32} {q : (Nat → Int32)} (hf : FX9_add n1 f1 v2 v3 = some q) :
    CM l D k Z yX9_add cX9_add 3 none 0 0 [.ref o1, .int v2, .int v3] none ([(o1, .inl (k 0, n1, .inl (f1)))]) ([(o1, .inl (k 0, n1, .inl (q)))]) := by
  refine CM.start hZ (by decide) (Nat.le_of_ble_eq_true rfl) ?_
  intro p e s m below meth c ls X hl G
  have hx := X.1
  have hb := X.2.1
  have hl : lv_has ls 3 [(0, .ref o1), (1, .int v2), (2, .int v3)] := hl
  unfold FX9_add at hf
  refine lv_iload_n hx hb dX9_add_0 rfl (lv_at hl 1 rfl) ?_
  refine lv_if_lt (tgt := 17) hx hb dX9_add_1 (by decide) (fun c1 => ?_) (fun c1 => ?_)
  · replace hf := if_t hf c1
    cases hf
    exact e_mv X G dX9_add_17
  · replace hf := if_f hf c1
    refine lv_iload_n hx hb dX9_add_4 rfl (lv_at hl 1 rfl) ?_
    refine lv_aload_n hx hb dX9_add_5 rfl (lv_at hl 0 rfl) ?_
    refine r_alen X G 0 0 rfl rfl (v := (Int32.ofNat n1)) (by first | rfl | decide) dX9_add_6 ?_
    refine lv_icmp_ge (tgt := 17) hx hb dX9_add_7 (by decide) (fun c2 => ?_) (fun c2 => ?_)
    · replace hf := if_t hf c2
      cases hf
      exact e_mv X G dX9_add_17
    · replace hf := if_f hf c2
      refine lv_aload_n hx hb dX9_add_10 rfl (lv_at hl 0 rfl) ?_
      refine lv_iload_n hx hb dX9_add_11 rfl (lv_at hl 1 rfl) ?_
      refine lv_dup2_11 hx hb dX9_add_12 rfl rfl ?_
      obtain ⟨h3, hf⟩ := ix_some hf
      refine r_iald X G 0 rfl h3 dX9_add_13 ?_
      refine lv_iload_n hx hb dX9_add_14 rfl (lv_at hl 2 rfl) ?_
      refine lv_iadd hx hb dX9_add_15 ?_
      obtain ⟨h4, hf⟩ := ix_some hf
      obtain ⟨g5, eg5, hf⟩ := nm_some hf
      refine r_iast X G 0 rfl h4 (ws' := [(o1, .inl (k 0, n1, .inl (g5)))]) (by subst eg5; rfl) dX9_add_16 (fun H locs G => ?_)
      cases hf
      exact e_mv X G dX9_add_17
theorem mk_X9_add : MS yX9_add cX9_add 3 none 3 := ⟨co_X9_add, in_X9, st_X9_add, trivial, by decide +kernel, by decide +kernel⟩
noncomputable def FX9_has (v1 : Int32) (v2 : Int32) : Option (Bool) :=
  if v2 < 0 then (
    some false
  ) else (
    if (8 : Int32) ≤ v2 then (
      some false
    ) else (
      if ((v1 >>> (v2 &&& 31)) &&& (1 : Int32)) = (1 : Int32) then (
        some true
      ) else (
        some false
      )
    )
  )
set_option maxHeartbeats 4000000 in
set_option maxRecDepth 100000 in
theorem ctX9_has {l : Launch} {D : va_G} {k : Nat → ClassId} {Z : ZT} (hZ : ZOK Z)  {v1 : Int32} {v2 : Int32} {q : Bool} (hf : FX9_has v1 v2 = some q) :
    CR l D k Z yX9_has cX9_has 2 (some .boolean) 0 0 [.int v1, .int v2] (some (.int (bI q))) ([]) := by
  refine CR.start hZ (by decide) (Nat.le_of_ble_eq_true rfl) ?_
  intro p e s m below meth c ls X hl G
  have hx := X.1
  have hb := X.2.1
  have hl : lv_has ls 2 [(0, .int v1), (1, .int v2)] := hl
  unfold FX9_has at hf
  refine lv_iload_n hx hb dX9_has_0 rfl (lv_at hl 1 rfl) ?_
  refine lv_if_lt (tgt := 23) hx hb dX9_has_1 (by decide) (fun c1 => ?_) (fun c1 => ?_)
  · replace hf := if_t hf c1
    refine lv_iconst (v := 0) hx hb dX9_has_23 (by decide) ?_
    cases hf
    exact e_rz _ rfl X dX9_has_24
  · replace hf := if_f hf c1
    refine lv_iload_n hx hb dX9_has_4 rfl (lv_at hl 1 rfl) ?_
    refine lv_bipush (v := 8) hx hb dX9_has_5 (by decide) ?_
    refine lv_icmp_ge (tgt := 23) hx hb dX9_has_7 (by decide) (fun c2 => ?_) (fun c2 => ?_)
    · replace hf := if_t hf c2
      refine lv_iconst (v := 0) hx hb dX9_has_23 (by decide) ?_
      cases hf
      exact e_rz _ rfl X dX9_has_24
    · replace hf := if_f hf c2
      refine lv_iload_n hx hb dX9_has_10 rfl (lv_at hl 0 rfl) ?_
      refine lv_iload_n hx hb dX9_has_11 rfl (lv_at hl 1 rfl) ?_
      refine lv_ishr hx hb dX9_has_12 ?_
      refine lv_iconst (v := 1) hx hb dX9_has_13 (by decide) ?_
      refine lv_iand hx hb dX9_has_14 ?_
      refine lv_iconst (v := 1) hx hb dX9_has_15 (by decide) ?_
      refine lv_icmp_ne (tgt := 23) hx hb dX9_has_16 (by decide) (fun c3 => ?_) (fun c3 => ?_)
      · replace hf := if_f hf c3
        refine lv_iconst (v := 0) hx hb dX9_has_23 (by decide) ?_
        cases hf
        exact e_rz _ rfl X dX9_has_24
      · replace hf := if_t hf c3
        refine lv_iconst (v := 1) hx hb dX9_has_19 (by decide) ?_
        refine lv_goto (tgt := 24) hx hb dX9_has_20 (by decide) ?_
        cases hf
        exact e_rz _ rfl X dX9_has_24
theorem mk_X9_has : MS yX9_has cX9_has 2 (some .boolean) 2 := ⟨co_X9_has, in_X9, st_X9_has, trivial, by decide +kernel, by decide +kernel⟩
noncomputable def FX9_copy (n1 : Nat) (f1 : Nat → Int32) (n2 : Nat) (f2 : Nat → Int32) : Option ((Nat → Int32)) :=
  cpk .int (0 : Int32) (0 : Int32) (if (Int32.ofNat n2) < (Int32.ofNat n1) then (Int32.ofNat n2) else (Int32.ofNat n1)) n1 n2 (f1) <|
  nm ((va_cpy (f1) (f2) (Int32.toNatClampNeg (0 : Int32)) (Int32.toNatClampNeg (0 : Int32)) (Int32.toNatClampNeg (if (Int32.ofNat n2) < (Int32.ofNat n1) then (Int32.ofNat n2) else (Int32.ofNat n1))))) fun g2 =>
  some g2
set_option maxHeartbeats 4000000 in
set_option maxRecDepth 100000 in
theorem ctX9_copy {l : Launch} {D : va_G} {k : Nat → ClassId} {Z : ZT} (hZ : ZOK Z) (o1 : Nat) (o2 : Nat) {n1 : Nat} {f1 : Nat → Int32} {n2 : Nat} {f2 : Nat → Int32} {q : (Nat → Int32)} (hf : FX9_copy n1 f1 n2 f2 = some q) :
    CM l D k Z yX9_copy cX9_copy 2 none 1 40 [.ref o1, .ref o2] none ([(o1, .inl (k 0, n1, .inl (f1)))] ++ ([(o2, .inl (k 0, n2, .inl (f2)))])) ([(o1, .inl (k 0, n1, .inl (f1)))] ++ ([(o2, .inl (k 0, n2, .inl (q)))])) := by
  refine CM.start hZ (by decide) (Nat.le_of_ble_eq_true rfl) ?_
  intro p e s m below meth c ls X hl G
  have hx := X.1
  have hb := X.2.1
  have hl : lv_has ls 2 [(0, .ref o1), (1, .ref o2)] := hl
  unfold FX9_copy at hf
  refine lv_aload_n hx hb dX9_copy_0 rfl (lv_at hl 0 rfl) ?_
  refine lv_iconst (v := 0) hx hb dX9_copy_1 (by decide) ?_
  refine lv_aload_n hx hb dX9_copy_2 rfl (lv_at hl 1 rfl) ?_
  refine lv_iconst (v := 0) hx hb dX9_copy_3 (by decide) ?_
  refine lv_aload_n hx hb dX9_copy_4 rfl (lv_at hl 0 rfl) ?_
  refine r_alen X G 0 0 rfl rfl (v := (Int32.ofNat n1)) (by first | rfl | decide) dX9_copy_5 ?_
  refine lv_aload_n hx hb dX9_copy_6 rfl (lv_at hl 1 rfl) ?_
  refine r_alen X G 1 0 rfl rfl (v := (Int32.ofNat n2)) (by first | rfl | decide) dX9_copy_7 ?_
  refine r_min X mm_X9_298 (Nat.le_of_ble_eq_true rfl) (Nat.le_of_ble_eq_true rfl) (Nat.zero_le _) (Nat.zero_le _) dX9_copy_8 hl.1 ?_
  obtain ⟨h1, hf⟩ := cpk_some hf
  obtain ⟨g2, eg2, hf⟩ := nm_some hf
  refine r_copy X G 0 1 0 rfl rfl rfl rfl h1 (ws' := [(o1, .inl (k 0, n1, .inl (f1)))] ++ ([(o2, .inl (k 0, n2, .inl (g2)))])) (by subst eg2; rfl) (X.2.2.2.2.2.2.1.use ac_link_X9_303) (Nat.le_of_ble_eq_true rfl) (Nat.le_of_ble_eq_true rfl) dX9_copy_11 hl.1 (fun H locs G => ?_)
  cases hf
  exact e_mv X G dX9_copy_14
theorem mk_X9_copy : MS yX9_copy cX9_copy 2 none 2 := ⟨co_X9_copy, in_X9, st_X9_copy, trivial, by decide +kernel, by decide +kernel⟩
noncomputable def FX5_put_3 (v1 : Int32) : (Int32 × TpT) → Option ((Int32 × TpT) ⊕ (TpT)) := fun stL1 =>
  if stL1.1 < 0 then (
    some (.inr stL1.2)
  ) else (
    if (800 : Int32) ≤ (Tp_length stL1.2) then (
      nm (stL1.1 + (-8)) fun x4 =>
      some (.inl (x4, stL1.2))
    ) else (
      ix (Tp_length stL1.2) 800 <|
      nm (sTp_bytes stL1.2 (upd (Tp_bytes stL1.2) (Int32.toNatClampNeg (Tp_length stL1.2)) (vp_nar .byte ((Int32.toInt8 (v1 >>> (stL1.1 &&& 31))).toInt32)))) fun TP6 =>
      nm (sTp_length TP6 ((Tp_length TP6) + (1 : Int32))) fun TP7 =>
      nm (stL1.1 + (-8)) fun x8 =>
      some (.inl (x8, TP7))
    )
  )
noncomputable def FX5_put (TP : TpT) (v1 : Int32) : Option (TpT) :=
  (itr (FX5_put_3 v1) ((24 : Int32), TP)).bind fun uL1 =>
  some uL1
set_option maxHeartbeats 4000000 in
set_option maxRecDepth 100000 in
theorem ctX5_put {l : Launch} {D : va_G} {k : Nat → ClassId} {Z : ZT} (hZ : ZOK Z) (ot : Nat) (aTP : Nat → Nat) {TP : TpT} {v1 : Int32} {q : TpT} (hf : FX5_put TP v1 = some q) :
    CM l D k Z yX5_put cX5_put 3 none 0 0 [.ref ot, .int v1] none (kTp k ot aTP (TP)) (kTp k ot aTP (q)) := by
  refine CM.start hZ (by decide) (Nat.le_of_ble_eq_true rfl) ?_
  intro p e s m below meth c ls X hl G
  have hx := X.1
  have hb := X.2.1
  have hl : lv_has ls 3 [(0, .ref ot), (1, .int v1)] := hl
  unfold FX5_put at hf
  refine lv_bipush (v := 24) hx hb dX5_put_0 (by decide) ?_
  refine lv_istore_n (lv' := [(2, .int (24 : Int32)), (0, .ref ot), (1, .int v1)]) hx hb dX5_put_2 rfl hl (by decide) rfl (fun ls hl => ?_)
  obtain ⟨exL1, hitL1, hfL1⟩ := bd_some hf
  obtain ⟨nL1, hitL1⟩ := itr_ex hitL1
  have KL1_0 : ∀ (u : TpT) (H : Heap) (locs : List Loc) (ls : Array Slot), exL1 = u → Wo D (wA (kTp k ot aTP (TP))) s.heap (kTp k ot aTP (u)) H locs → lv_has ls 3 [] → W p l e (rmz 0 0) s m [.ref ot, .int v1].toArray below meth c H locs 0 0 (MQ below (Qm D none (kTp k ot aTP (TP)) (kTp k ot aTP (q))) [.ref ot, .int v1].toArray s 0 0 (wA (kTp k ot aTP (TP)))) (F0 m 46 ls []) := by
    intro uL1 H locs ls hex G hl
    rw [hex] at hfL1
    have hf := hfL1
    cases hf
    exact e_mv X G dX5_put_46
  have LL1 : ∀ (n : Nat) (stL1 : Int32 × TpT) (H : Heap) (locs : List Loc) (ls : Array Slot), Wo D (wA (kTp k ot aTP (TP))) s.heap (kTp k ot aTP (stL1.2)) H locs → lv_has ls 3 [(0, .ref ot), (1, .int v1), (2, .int (stL1.1))] → it (FX5_put_3 v1) n stL1 = some exL1 → W p l e (rmz 0 0) s m [.ref ot, .int v1].toArray below meth c H locs 0 0 (MQ below (Qm D none (kTp k ot aTP (TP)) (kTp k ot aTP (q))) [.ref ot, .int v1].toArray s 0 0 (wA (kTp k ot aTP (TP)))) (F0 m 3 ls []) := by
    intro n
    induction n with
    | zero =>
      intro stL1 H locs ls G hl hit
      exact (it_zero hit).elim
    | succ n ih =>
      intro stL1 H locs ls G hl hit
      obtain ⟨oL1, hf, hoL1⟩ := it_bd hit
      unfold FX5_put_3 at hf
      refine lv_iload_n hx hb dX5_put_3 rfl (lv_at hl 2 rfl) ?_
      refine lv_if_lt (tgt := 46) hx hb dX5_put_4 (by decide) (fun c2 => ?_) (fun c2 => ?_)
      · replace hf := if_t hf c2
        cases hf
        exact KL1_0 stL1.2 _ _ _ (it_out hoL1) G (lv_sub hl [] rfl)
      · replace hf := if_f hf c2
        refine lv_aload_n hx hb dX5_put_7 rfl (lv_at hl 0 rfl) ?_
        refine r_get X inw_X5 G 0 rfl rfl 1 (by decide) fl_X5_15 (v := .int (Tp_length stL1.2)) rfl dX5_put_8 ?_
        refine lv_sipush (v := 800) hx hb dX5_put_11 (by decide) ?_
        refine lv_icmp_ge (tgt := 40) hx hb dX5_put_14 (by decide) (fun c3 => ?_) (fun c3 => ?_)
        · replace hf := if_t hf c3
          obtain ⟨x4, ex4, hf⟩ := nm_some hf
          refine lv_iinc (v := x4) (lv' := [(2, .int x4), (0, .ref ot), (1, .int v1)]) hx hb dX5_put_40 hl (k := 2) rfl (by subst ex4; rfl) (by decide) rfl (fun ls hl => ?_)
          refine lv_goto (tgt := 3) hx hb dX5_put_43 (by decide) ?_
          cases hf
          exact ih (x4, stL1.2) _ _ _ G (lv_sub hl [1, 2, 0] rfl) hoL1
        · replace hf := if_f hf c3
          refine lv_aload_n hx hb dX5_put_17 rfl (lv_at hl 0 rfl) ?_
          refine r_get X inw_X5 G 0 rfl rfl 0 (by decide) fl_X5_9 (v := .ref (aTP 0)) rfl dX5_put_18 ?_
          refine lv_aload_n hx hb dX5_put_21 rfl (lv_at hl 0 rfl) ?_
          refine r_get X inw_X5 G 0 rfl rfl 1 (by decide) fl_X5_15 (v := .int (Tp_length stL1.2)) rfl dX5_put_22 ?_
          refine lv_iload_n hx hb dX5_put_25 rfl (lv_at hl 1 rfl) ?_
          refine lv_iload_n hx hb dX5_put_26 rfl (lv_at hl 2 rfl) ?_
          refine lv_ishr hx hb dX5_put_27 ?_
          refine lv_i2b (v := (Int32.toInt8 (v1 >>> (stL1.1 &&& 31))).toInt32) hx hb dX5_put_28 rfl ?_
          obtain ⟨h5, hf⟩ := ix_some hf
          obtain ⟨TP6, eTP6, hf⟩ := nm_some hf
          refine r_bast X G 1 rfl h5 (ws' := kTp k ot aTP (TP6)) (by subst eTP6; rfl) dX5_put_29 (fun H locs G => ?_)
          refine lv_aload_n hx hb dX5_put_30 rfl (lv_at hl 0 rfl) ?_
          refine lv_dup hx hb dX5_put_31 rfl ?_
          refine r_get X inw_X5 G 0 rfl rfl 1 (by decide) fl_X5_15 (v := .int (Tp_length TP6)) rfl dX5_put_32 ?_
          refine lv_iconst (v := 1) hx hb dX5_put_35 (by decide) ?_
          refine lv_iadd hx hb dX5_put_36 ?_
          obtain ⟨TP7, eTP7, hf⟩ := nm_some hf
          refine r_put X inw_X5 tyX5 tyX5_ok nmX5 G 0 rfl rfl 1 (by decide) fl_X5_15 rfl rfl rfl (Nat.le_of_ble_eq_true rfl) (ws' := kTp k ot aTP (TP7)) (by subst eTP7; rfl) dX5_put_37 (fun H locs G => ?_)
          obtain ⟨x8, ex8, hf⟩ := nm_some hf
          refine lv_iinc (v := x8) (lv' := [(2, .int x8), (0, .ref ot), (1, .int v1)]) hx hb dX5_put_40 hl (k := 2) rfl (by subst ex8; rfl) (by decide) rfl (fun ls hl => ?_)
          refine lv_goto (tgt := 3) hx hb dX5_put_43 (by decide) ?_
          cases hf
          exact ih (x8, TP7) _ _ _ G (lv_sub hl [1, 2, 0] rfl) hoL1
  exact LL1 nL1 ((24 : Int32), TP) _ _ _ G (lv_sub hl [1, 2, 0] rfl) hitL1
theorem mk_X5_put : MV yX5_put cX5_put 3 none 1 := ⟨co_X5_put, in_X5, im_X5_put, se_X5_put, by decide +kernel, by decide +kernel⟩
noncomputable def FX5_byteAt (TP : TpT) (v1 : Int32) : Option (Int32) :=
  if v1 < 0 then (
    some (0 : Int32)
  ) else (
    if (Tp_length TP) ≤ v1 then (
      some (0 : Int32)
    ) else (
      ix v1 800 <|
      some (Tp_bytes TP (Int32.toNatClampNeg v1))
    )
  )
set_option maxHeartbeats 4000000 in
set_option maxRecDepth 100000 in
theorem ctX5_byteAt {l : Launch} {D : va_G} {k : Nat → ClassId} {Z : ZT} (hZ : ZOK Z) (ot : Nat) (aTP : Nat → Nat) {TP : TpT} {v1 : Int32} {q : Int32} (hf : FX5_byteAt TP v1 = some q) :
    CR l D k Z yX5_byteAt cX5_byteAt 2 (some .int) 0 0 [.ref ot, .int v1] (some (.int q)) (kTp k ot aTP (TP)) := by
  refine CR.start hZ (by decide) (Nat.le_of_ble_eq_true rfl) ?_
  intro p e s m below meth c ls X hl G
  have hx := X.1
  have hb := X.2.1
  have hl : lv_has ls 2 [(0, .ref ot), (1, .int v1)] := hl
  unfold FX5_byteAt at hf
  refine lv_iload_n hx hb dX5_byteAt_0 rfl (lv_at hl 1 rfl) ?_
  refine lv_if_lt (tgt := 21) hx hb dX5_byteAt_1 (by decide) (fun c1 => ?_) (fun c1 => ?_)
  · replace hf := if_t hf c1
    refine lv_iconst (v := 0) hx hb dX5_byteAt_21 (by decide) ?_
    cases hf
    exact e_ri X dX5_byteAt_22
  · replace hf := if_f hf c1
    refine lv_iload_n hx hb dX5_byteAt_4 rfl (lv_at hl 1 rfl) ?_
    refine lv_aload_n hx hb dX5_byteAt_5 rfl (lv_at hl 0 rfl) ?_
    refine r_get X inw_X5 G 0 rfl rfl 1 (by decide) fl_X5_15 (v := .int (Tp_length TP)) rfl dX5_byteAt_6 ?_
    refine lv_icmp_ge (tgt := 21) hx hb dX5_byteAt_9 (by decide) (fun c2 => ?_) (fun c2 => ?_)
    · replace hf := if_t hf c2
      refine lv_iconst (v := 0) hx hb dX5_byteAt_21 (by decide) ?_
      cases hf
      exact e_ri X dX5_byteAt_22
    · replace hf := if_f hf c2
      refine lv_aload_n hx hb dX5_byteAt_12 rfl (lv_at hl 0 rfl) ?_
      refine r_get X inw_X5 G 0 rfl rfl 0 (by decide) fl_X5_9 (v := .ref (aTP 0)) rfl dX5_byteAt_13 ?_
      refine lv_iload_n hx hb dX5_byteAt_16 rfl (lv_at hl 1 rfl) ?_
      obtain ⟨h3, hf⟩ := ix_some hf
      refine r_bald X G 1 rfl h3 dX5_byteAt_17 ?_
      refine lv_goto (tgt := 22) hx hb dX5_byteAt_18 (by decide) ?_
      cases hf
      exact e_ri X dX5_byteAt_22
theorem mk_X5_byteAt : MV yX5_byteAt cX5_byteAt 2 (some .int) 1 := ⟨co_X5_byteAt, in_X5, im_X5_byteAt, se_X5_byteAt, by decide +kernel, by decide +kernel⟩
noncomputable def FX5_take (TP : TpT) (TP_2 : TpT) : Option (TpT) :=
  cpk .byte (0 : Int32) (0 : Int32) (Tp_length TP_2) 800 800 (Tp_bytes TP_2) <|
  nm (sTp_bytes TP (va_cpy (Tp_bytes TP_2) (Tp_bytes TP) (Int32.toNatClampNeg (0 : Int32)) (Int32.toNatClampNeg (0 : Int32)) (Int32.toNatClampNeg (Tp_length TP_2)))) fun TP2 =>
  nm (sTp_length TP2 (Tp_length TP_2)) fun TP3 =>
  some TP3
set_option maxHeartbeats 4000000 in
set_option maxRecDepth 100000 in
theorem ctX5_take {l : Launch} {D : va_G} {k : Nat → ClassId} {Z : ZT} (hZ : ZOK Z) (ot : Nat) (o1 : Nat) (aTP : Nat → Nat) (aTP_2 : Nat → Nat) {TP : TpT} {TP_2 : TpT} {q : TpT} (hf : FX5_take TP TP_2 = some q) :
    CM l D k Z yX5_take cX5_take 2 none 1 40 [.ref ot, .ref o1] none (kTp k ot aTP (TP) ++ (kTp k o1 aTP_2 (TP_2))) (kTp k ot aTP (q) ++ (kTp k o1 aTP_2 (TP_2))) := by
  refine CM.start hZ (by decide) (Nat.le_of_ble_eq_true rfl) ?_
  intro p e s m below meth c ls X hl G
  have hx := X.1
  have hb := X.2.1
  have hl : lv_has ls 2 [(0, .ref ot), (1, .ref o1)] := hl
  unfold FX5_take at hf
  refine lv_aload_n hx hb dX5_take_0 rfl (lv_at hl 1 rfl) ?_
  refine r_get X inw_X5 G 2 rfl rfl 0 (by decide) fl_X5_9 (v := .ref (aTP_2 0)) rfl dX5_take_1 ?_
  refine lv_iconst (v := 0) hx hb dX5_take_4 (by decide) ?_
  refine lv_aload_n hx hb dX5_take_5 rfl (lv_at hl 0 rfl) ?_
  refine r_get X inw_X5 G 0 rfl rfl 0 (by decide) fl_X5_9 (v := .ref (aTP 0)) rfl dX5_take_6 ?_
  refine lv_iconst (v := 0) hx hb dX5_take_9 (by decide) ?_
  refine lv_aload_n hx hb dX5_take_10 rfl (lv_at hl 1 rfl) ?_
  refine r_get X inw_X5 G 2 rfl rfl 1 (by decide) fl_X5_15 (v := .int (Tp_length TP_2)) rfl dX5_take_11 ?_
  obtain ⟨h1, hf⟩ := cpk_some hf
  obtain ⟨TP2, eTP2, hf⟩ := nm_some hf
  refine r_copy X G 3 1 1 rfl rfl rfl rfl h1 (ws' := kTp k ot aTP (TP2) ++ (kTp k o1 aTP_2 (TP_2))) (by subst eTP2; rfl) (X.2.2.2.2.2.2.1.use ac_link_X5_19) (Nat.le_of_ble_eq_true rfl) (Nat.le_of_ble_eq_true rfl) dX5_take_14 hl.1 (fun H locs G => ?_)
  refine lv_aload_n hx hb dX5_take_17 rfl (lv_at hl 0 rfl) ?_
  refine lv_aload_n hx hb dX5_take_18 rfl (lv_at hl 1 rfl) ?_
  refine r_get X inw_X5 G 2 rfl rfl 1 (by decide) fl_X5_15 (v := .int (Tp_length TP_2)) rfl dX5_take_19 ?_
  obtain ⟨TP3, eTP3, hf⟩ := nm_some hf
  refine r_put X inw_X5 tyX5 tyX5_ok nmX5 G 0 rfl rfl 1 (by decide) fl_X5_15 rfl rfl rfl (Nat.le_of_ble_eq_true rfl) (ws' := kTp k ot aTP (TP3) ++ (kTp k o1 aTP_2 (TP_2))) (by subst eTP3; rfl) dX5_take_22 (fun H locs G => ?_)
  cases hf
  exact e_mv X G dX5_take_25
theorem mk_X5_take : MV yX5_take cX5_take 2 none 1 := ⟨co_X5_take, in_X5, im_X5_take, se_X5_take, by decide +kernel, by decide +kernel⟩
noncomputable def FX4_clear (SK : SkT) : Option (SkT) :=
  nm (sSk_eldest SK (0 : Int32)) fun SK1 =>
  nm (sSk_kept SK1 (0 : Int32)) fun SK2 =>
  nm (sSk_total SK2 (0 : Int32)) fun SK3 =>
  some SK3
set_option maxHeartbeats 4000000 in
set_option maxRecDepth 100000 in
theorem ctX4_clear {l : Launch} {D : va_G} {k : Nat → ClassId} {Z : ZT} (hZ : ZOK Z) (ot : Nat) (aSK : Nat → Nat) {SK : SkT} {q : SkT} (hf : FX4_clear SK = some q) :
    CM l D k Z yX4_clear cX4_clear 1 none 0 0 [.ref ot] none (kSk k ot aSK (SK)) (kSk k ot aSK (q)) := by
  refine CM.start hZ (by decide) (Nat.le_of_ble_eq_true rfl) ?_
  intro p e s m below meth c ls X hl G
  have hx := X.1
  have hb := X.2.1
  have hl : lv_has ls 1 [(0, .ref ot)] := hl
  unfold FX4_clear at hf
  refine lv_aload_n hx hb dX4_clear_0 rfl (lv_at hl 0 rfl) ?_
  refine lv_iconst (v := 0) hx hb dX4_clear_1 (by decide) ?_
  obtain ⟨SK1, eSK1, hf⟩ := nm_some hf
  refine r_put X inw_X4 tyX4 tyX4_ok nmX4 G 0 rfl rfl 1 (by decide) fl_X4_15 rfl rfl rfl (Nat.le_of_ble_eq_true rfl) (ws' := kSk k ot aSK (SK1)) (by subst eSK1; rfl) dX4_clear_2 (fun H locs G => ?_)
  refine lv_aload_n hx hb dX4_clear_5 rfl (lv_at hl 0 rfl) ?_
  refine lv_iconst (v := 0) hx hb dX4_clear_6 (by decide) ?_
  obtain ⟨SK2, eSK2, hf⟩ := nm_some hf
  refine r_put X inw_X4 tyX4 tyX4_ok nmX4 G 0 rfl rfl 2 (by decide) fl_X4_19 rfl rfl rfl (Nat.le_of_ble_eq_true rfl) (ws' := kSk k ot aSK (SK2)) (by subst eSK2; rfl) dX4_clear_7 (fun H locs G => ?_)
  refine lv_aload_n hx hb dX4_clear_10 rfl (lv_at hl 0 rfl) ?_
  refine lv_iconst (v := 0) hx hb dX4_clear_11 (by decide) ?_
  obtain ⟨SK3, eSK3, hf⟩ := nm_some hf
  refine r_put X inw_X4 tyX4 tyX4_ok nmX4 G 0 rfl rfl 3 (by decide) fl_X4_22 rfl rfl rfl (Nat.le_of_ble_eq_true rfl) (ws' := kSk k ot aSK (SK3)) (by subst eSK3; rfl) dX4_clear_12 (fun H locs G => ?_)
  cases hf
  exact e_mv X G dX4_clear_15
theorem mk_X4_clear : MV yX4_clear cX4_clear 1 none 0 := ⟨co_X4_clear, in_X4, im_X4_clear, se_X4_clear, by decide +kernel, by decide +kernel⟩
noncomputable def FX4_take (SK : SkT) (SK_2 : SkT) : Option (SkT) :=
  (FX9_copy 150 (Sk_rows SK_2) 150 (Sk_rows SK)).bind fun r1 =>
  nm (sSk_rows SK r1) fun SK2 =>
  nm (sSk_eldest SK2 (Sk_eldest SK_2)) fun SK3 =>
  nm (sSk_kept SK3 (Sk_kept SK_2)) fun SK4 =>
  nm (sSk_total SK4 (Sk_total SK_2)) fun SK5 =>
  some SK5
set_option maxHeartbeats 4000000 in
set_option maxRecDepth 100000 in
theorem ctX4_take {l : Launch} {D : va_G} {k : Nat → ClassId} {Z : ZT} (hZ : ZOK Z) (ot : Nat) (o1 : Nat) (aSK : Nat → Nat) (aSK_2 : Nat → Nat) {SK : SkT} {SK_2 : SkT} {q : SkT} (hf : FX4_take SK SK_2 = some q) :
    CM l D k Z yX4_take cX4_take 2 none 2 61 [.ref ot, .ref o1] none (kSk k ot aSK (SK) ++ (kSk k o1 aSK_2 (SK_2))) (kSk k ot aSK (q) ++ (kSk k o1 aSK_2 (SK_2))) := by
  refine CM.start hZ (by decide) (Nat.le_of_ble_eq_true rfl) ?_
  intro p e s m below meth c ls X hl G
  have hx := X.1
  have hb := X.2.1
  have hl : lv_has ls 2 [(0, .ref ot), (1, .ref o1)] := hl
  unfold FX4_take at hf
  refine lv_aload_n hx hb dX4_take_0 rfl (lv_at hl 1 rfl) ?_
  refine r_get X inw_X4 G 2 rfl rfl 0 (by decide) fl_X4_9 (v := .ref (aSK_2 0)) rfl dX4_take_1 ?_
  refine lv_aload_n hx hb dX4_take_4 rfl (lv_at hl 0 rfl) ?_
  refine r_get X inw_X4 G 0 rfl rfl 0 (by decide) fl_X4_9 (v := .ref (aSK 0)) rfl dX4_take_5 ?_
  obtain ⟨r1, hcr1, hf⟩ := bd_some hf
  obtain ⟨SK2, eSK2, hf⟩ := nm_some hf
  refine p_N (st1 := []) (wr := [(ot, .inr (4, [.ref (aSK 0), .int (Sk_eldest SK), .int (Sk_kept SK), .int (Sk_total SK)]))] ++ ([(o1, .inr (4, [.ref (aSK_2 0), .int (Sk_eldest SK_2), .int (Sk_kept SK_2), .int (Sk_total SK_2)]))])) (ws' := kSk k ot aSK (SK2) ++ (kSk k o1 aSK_2 (SK_2))) (run_N (rest := []) X (ctX9_copy hZ (aSK_2 0) (aSK 0) hcr1) mk_X9_copy mn_X4_25 ⟨(Nat.le_of_ble_eq_true rfl), (Nat.le_of_ble_eq_true rfl)⟩ G [3, 1] rfl rfl rfl hl.1 rfl (Nat.le_of_ble_eq_true rfl) dX4_take_8 ⟨Nat.zero_le _, Nat.zero_le _⟩) rfl G [3, 1] [0, 2] 4 rfl (by subst eSK2; rfl) rfl (by subst eSK2; rfl) rfl (by decide) (by decide) rfl (fun H locs G => ?_)
  refine lv_aload_n hx hb dX4_take_11 rfl (lv_at hl 0 rfl) ?_
  refine lv_aload_n hx hb dX4_take_12 rfl (lv_at hl 1 rfl) ?_
  refine r_get X inw_X4 G 2 rfl rfl 1 (by decide) fl_X4_15 (v := .int (Sk_eldest SK_2)) rfl dX4_take_13 ?_
  obtain ⟨SK3, eSK3, hf⟩ := nm_some hf
  refine r_put X inw_X4 tyX4 tyX4_ok nmX4 G 0 rfl rfl 1 (by decide) fl_X4_15 rfl rfl rfl (Nat.le_of_ble_eq_true rfl) (ws' := kSk k ot aSK (SK3) ++ (kSk k o1 aSK_2 (SK_2))) (by subst eSK3; rfl) dX4_take_16 (fun H locs G => ?_)
  refine lv_aload_n hx hb dX4_take_19 rfl (lv_at hl 0 rfl) ?_
  refine lv_aload_n hx hb dX4_take_20 rfl (lv_at hl 1 rfl) ?_
  refine r_get X inw_X4 G 2 rfl rfl 2 (by decide) fl_X4_19 (v := .int (Sk_kept SK_2)) rfl dX4_take_21 ?_
  obtain ⟨SK4, eSK4, hf⟩ := nm_some hf
  refine r_put X inw_X4 tyX4 tyX4_ok nmX4 G 0 rfl rfl 2 (by decide) fl_X4_19 rfl rfl rfl (Nat.le_of_ble_eq_true rfl) (ws' := kSk k ot aSK (SK4) ++ (kSk k o1 aSK_2 (SK_2))) (by subst eSK4; rfl) dX4_take_24 (fun H locs G => ?_)
  refine lv_aload_n hx hb dX4_take_27 rfl (lv_at hl 0 rfl) ?_
  refine lv_aload_n hx hb dX4_take_28 rfl (lv_at hl 1 rfl) ?_
  refine r_get X inw_X4 G 2 rfl rfl 3 (by decide) fl_X4_22 (v := .int (Sk_total SK_2)) rfl dX4_take_29 ?_
  obtain ⟨SK5, eSK5, hf⟩ := nm_some hf
  refine r_put X inw_X4 tyX4 tyX4_ok nmX4 G 0 rfl rfl 3 (by decide) fl_X4_22 rfl rfl rfl (Nat.le_of_ble_eq_true rfl) (ws' := kSk k ot aSK (SK5) ++ (kSk k o1 aSK_2 (SK_2))) (by subst eSK5; rfl) dX4_take_32 (fun H locs G => ?_)
  cases hf
  exact e_mv X G dX4_take_35
theorem mk_X4_take : MV yX4_take cX4_take 2 none 1 := ⟨co_X4_take, in_X4, im_X4_take, se_X4_take, by decide +kernel, by decide +kernel⟩
noncomputable def FX4_keep_j51 (v1 : Int32) (v2 : Int32) (v3 : Int32) (v4 : Int32) (v5 : Int32) (x1 : Int32) (vJ2 : SkT) : Option (SkT) :=
  nm (sSk_total vJ2 ((Sk_total vJ2) + (1 : Int32))) fun SK3 =>
  (FX9_set 150 (Sk_rows SK3) x1 v1).bind fun r4 =>
  nm (sSk_rows SK3 r4) fun SK5 =>
  (FX9_set 150 (Sk_rows SK5) (x1 + (1 : Int32)) v2).bind fun r6 =>
  nm (sSk_rows SK5 r6) fun SK7 =>
  (FX9_set 150 (Sk_rows SK7) (x1 + (2 : Int32)) v3).bind fun r8 =>
  nm (sSk_rows SK7 r8) fun SK9 =>
  (FX9_set 150 (Sk_rows SK9) (x1 + (3 : Int32)) v4).bind fun r10 =>
  nm (sSk_rows SK9 r10) fun SK11 =>
  (FX9_set 150 (Sk_rows SK11) (x1 + (4 : Int32)) v5).bind fun r12 =>
  nm (sSk_rows SK11 r12) fun SK13 =>
  some SK13
noncomputable def FX4_keep (SK : SkT) (v1 : Int32) (v2 : Int32) (v3 : Int32) (v4 : Int32) (v5 : Int32) : Option (SkT) :=
  nm ((((Sk_eldest SK) + (Sk_kept SK)) - ((Sk_eldest SK) + (Sk_kept SK)) / (30 : Int32) * (30 : Int32)) * (5 : Int32)) fun x1 =>
  if (30 : Int32) ≤ (Sk_kept SK) then (
    nm (sSk_eldest SK (((Sk_eldest SK) + (1 : Int32)) - ((Sk_eldest SK) + (1 : Int32)) / (30 : Int32) * (30 : Int32))) fun SK15 =>
    FX4_keep_j51 v1 v2 v3 v4 v5 x1 SK15
  ) else (
    nm (sSk_kept SK ((Sk_kept SK) + (1 : Int32))) fun SK16 =>
    FX4_keep_j51 v1 v2 v3 v4 v5 x1 SK16
  )
set_option maxHeartbeats 4000000 in
set_option maxRecDepth 100000 in
theorem ctX4_keep {l : Launch} {D : va_G} {k : Nat → ClassId} {Z : ZT} (hZ : ZOK Z) (ot : Nat) (aSK : Nat → Nat) {SK : SkT} {v1 : Int32} {v2 : Int32} {v3 : Int32} {v4 : Int32} {v5 : Int32} {q : SkT} (hf : FX4_keep SK v1 v2 v3 v4 v5 = some q) :
    CM l D k Z yX4_keep cX4_keep 7 none 1 22 [.ref ot, .int v1, .int v2, .int v3, .int v4, .int v5] none (kSk k ot aSK (SK)) (kSk k ot aSK (q)) := by
  refine CM.start hZ (by decide) (Nat.le_of_ble_eq_true rfl) ?_
  intro p e s m below meth c ls X hl G
  have hx := X.1
  have hb := X.2.1
  have hl : lv_has ls 7 [(0, .ref ot), (1, .int v1), (2, .int v2), (3, .int v3), (4, .int v4), (5, .int v5)] := hl
  unfold FX4_keep at hf
  refine lv_aload_n hx hb dX4_keep_0 rfl (lv_at hl 0 rfl) ?_
  refine r_get X inw_X4 G 0 rfl rfl 1 (by decide) fl_X4_15 (v := .int (Sk_eldest SK)) rfl dX4_keep_1 ?_
  refine lv_aload_n hx hb dX4_keep_4 rfl (lv_at hl 0 rfl) ?_
  refine r_get X inw_X4 G 0 rfl rfl 2 (by decide) fl_X4_19 (v := .int (Sk_kept SK)) rfl dX4_keep_5 ?_
  refine lv_iadd hx hb dX4_keep_8 ?_
  refine lv_bipush (v := 30) hx hb dX4_keep_9 (by decide) ?_
  refine lv_irem hx hb dX4_keep_11 (by decide) ?_
  refine lv_iconst (v := 5) hx hb dX4_keep_12 (by decide) ?_
  refine lv_imul hx hb dX4_keep_13 ?_
  obtain ⟨x1, ex1, hf⟩ := nm_some hf
  refine r_top (congrArg Value.int ex1) ?_
  refine lv_istore (lv' := [(6, .int x1), (0, .ref ot), (1, .int v1), (2, .int v2), (3, .int v3), (4, .int v4), (5, .int v5)]) hx hb dX4_keep_14 hl (by decide) rfl (fun ls hl => ?_)
  refine lv_aload_n hx hb dX4_keep_16 rfl (lv_at hl 1 rfl) ?_
  refine r_get X inw_X4 G 0 rfl rfl 2 (by decide) fl_X4_19 (v := .int (Sk_kept SK)) rfl dX4_keep_17 ?_
  refine lv_bipush (v := 30) hx hb dX4_keep_20 (by decide) ?_
  have JJ2 : ∀ (vJ2 : SkT) (H : Heap) (locs : List Loc) (ls : Array Slot), Wo D (wA (kSk k ot aSK (SK))) s.heap (kSk k ot aSK (vJ2)) H locs → lv_has ls 7 [(0, .ref ot), (1, .int v1), (2, .int v2), (3, .int v3), (4, .int v4), (5, .int v5), (6, .int x1)] → FX4_keep_j51 v1 v2 v3 v4 v5 x1 vJ2 = some q → W p l e (rmz 1 22) s m [.ref ot, .int v1, .int v2, .int v3, .int v4, .int v5].toArray below meth c H locs 0 0 (MQ below (Qm D none (kSk k ot aSK (SK)) (kSk k ot aSK (q))) [.ref ot, .int v1, .int v2, .int v3, .int v4, .int v5].toArray s 0 0 (wA (kSk k ot aSK (SK)))) (F0 m 51 ls []) := by
    intro vJ2 H locs ls G hl hf
    unfold FX4_keep_j51 at hf
    refine lv_aload_n hx hb dX4_keep_51 rfl (lv_at hl 0 rfl) ?_
    refine lv_dup hx hb dX4_keep_52 rfl ?_
    refine r_get X inw_X4 G 0 rfl rfl 3 (by decide) fl_X4_22 (v := .int (Sk_total vJ2)) rfl dX4_keep_53 ?_
    refine lv_iconst (v := 1) hx hb dX4_keep_56 (by decide) ?_
    refine lv_iadd hx hb dX4_keep_57 ?_
    obtain ⟨SK3, eSK3, hf⟩ := nm_some hf
    refine r_put X inw_X4 tyX4 tyX4_ok nmX4 G 0 rfl rfl 3 (by decide) fl_X4_22 rfl rfl rfl (Nat.le_of_ble_eq_true rfl) (ws' := kSk k ot aSK (SK3)) (by subst eSK3; rfl) dX4_keep_58 (fun H locs G => ?_)
    refine lv_aload_n hx hb dX4_keep_61 rfl (lv_at hl 0 rfl) ?_
    refine r_get X inw_X4 G 0 rfl rfl 0 (by decide) fl_X4_9 (v := .ref (aSK 0)) rfl dX4_keep_62 ?_
    refine lv_iload hx hb dX4_keep_65 (lv_at hl 6 rfl) ?_
    refine lv_iload_n hx hb dX4_keep_67 rfl (lv_at hl 1 rfl) ?_
    obtain ⟨r4, hcr4, hf⟩ := bd_some hf
    obtain ⟨SK5, eSK5, hf⟩ := nm_some hf
    refine p_N (st1 := []) (wr := [(ot, .inr (4, [.ref (aSK 0), .int (Sk_eldest SK3), .int (Sk_kept SK3), .int (Sk_total SK3)]))]) (ws' := kSk k ot aSK (SK5)) (run_N (rest := []) X (ctX9_set hZ (aSK 0) hcr4) mk_X9_set mn_X4_29 ⟨(Nat.le_of_ble_eq_true rfl), (Nat.le_of_ble_eq_true rfl)⟩ G [1] rfl rfl rfl hl.1 rfl (Nat.le_of_ble_eq_true rfl) dX4_keep_68 ⟨Nat.zero_le _, Nat.zero_le _⟩) rfl G [1] [0] 2 rfl (by subst eSK5; rfl) rfl (by subst eSK5; rfl) rfl (by decide) (by decide) rfl (fun H locs G => ?_)
    refine lv_aload_n hx hb dX4_keep_71 rfl (lv_at hl 0 rfl) ?_
    refine r_get X inw_X4 G 0 rfl rfl 0 (by decide) fl_X4_9 (v := .ref (aSK 0)) rfl dX4_keep_72 ?_
    refine lv_iload hx hb dX4_keep_75 (lv_at hl 6 rfl) ?_
    refine lv_iconst (v := 1) hx hb dX4_keep_77 (by decide) ?_
    refine lv_iadd hx hb dX4_keep_78 ?_
    refine lv_iload_n hx hb dX4_keep_79 rfl (lv_at hl 2 rfl) ?_
    obtain ⟨r6, hcr6, hf⟩ := bd_some hf
    obtain ⟨SK7, eSK7, hf⟩ := nm_some hf
    refine p_N (st1 := []) (wr := [(ot, .inr (4, [.ref (aSK 0), .int (Sk_eldest SK5), .int (Sk_kept SK5), .int (Sk_total SK5)]))]) (ws' := kSk k ot aSK (SK7)) (run_N (rest := []) X (ctX9_set hZ (aSK 0) hcr6) mk_X9_set mn_X4_29 ⟨(Nat.le_of_ble_eq_true rfl), (Nat.le_of_ble_eq_true rfl)⟩ G [1] rfl rfl rfl hl.1 rfl (Nat.le_of_ble_eq_true rfl) dX4_keep_80 ⟨Nat.zero_le _, Nat.zero_le _⟩) rfl G [1] [0] 2 rfl (by subst eSK7; rfl) rfl (by subst eSK7; rfl) rfl (by decide) (by decide) rfl (fun H locs G => ?_)
    refine lv_aload_n hx hb dX4_keep_83 rfl (lv_at hl 0 rfl) ?_
    refine r_get X inw_X4 G 0 rfl rfl 0 (by decide) fl_X4_9 (v := .ref (aSK 0)) rfl dX4_keep_84 ?_
    refine lv_iload hx hb dX4_keep_87 (lv_at hl 6 rfl) ?_
    refine lv_iconst (v := 2) hx hb dX4_keep_89 (by decide) ?_
    refine lv_iadd hx hb dX4_keep_90 ?_
    refine lv_iload_n hx hb dX4_keep_91 rfl (lv_at hl 3 rfl) ?_
    obtain ⟨r8, hcr8, hf⟩ := bd_some hf
    obtain ⟨SK9, eSK9, hf⟩ := nm_some hf
    refine p_N (st1 := []) (wr := [(ot, .inr (4, [.ref (aSK 0), .int (Sk_eldest SK7), .int (Sk_kept SK7), .int (Sk_total SK7)]))]) (ws' := kSk k ot aSK (SK9)) (run_N (rest := []) X (ctX9_set hZ (aSK 0) hcr8) mk_X9_set mn_X4_29 ⟨(Nat.le_of_ble_eq_true rfl), (Nat.le_of_ble_eq_true rfl)⟩ G [1] rfl rfl rfl hl.1 rfl (Nat.le_of_ble_eq_true rfl) dX4_keep_92 ⟨Nat.zero_le _, Nat.zero_le _⟩) rfl G [1] [0] 2 rfl (by subst eSK9; rfl) rfl (by subst eSK9; rfl) rfl (by decide) (by decide) rfl (fun H locs G => ?_)
    refine lv_aload_n hx hb dX4_keep_95 rfl (lv_at hl 0 rfl) ?_
    refine r_get X inw_X4 G 0 rfl rfl 0 (by decide) fl_X4_9 (v := .ref (aSK 0)) rfl dX4_keep_96 ?_
    refine lv_iload hx hb dX4_keep_99 (lv_at hl 6 rfl) ?_
    refine lv_iconst (v := 3) hx hb dX4_keep_101 (by decide) ?_
    refine lv_iadd hx hb dX4_keep_102 ?_
    refine lv_iload hx hb dX4_keep_103 (lv_at hl 4 rfl) ?_
    obtain ⟨r10, hcr10, hf⟩ := bd_some hf
    obtain ⟨SK11, eSK11, hf⟩ := nm_some hf
    refine p_N (st1 := []) (wr := [(ot, .inr (4, [.ref (aSK 0), .int (Sk_eldest SK9), .int (Sk_kept SK9), .int (Sk_total SK9)]))]) (ws' := kSk k ot aSK (SK11)) (run_N (rest := []) X (ctX9_set hZ (aSK 0) hcr10) mk_X9_set mn_X4_29 ⟨(Nat.le_of_ble_eq_true rfl), (Nat.le_of_ble_eq_true rfl)⟩ G [1] rfl rfl rfl hl.1 rfl (Nat.le_of_ble_eq_true rfl) dX4_keep_105 ⟨Nat.zero_le _, Nat.zero_le _⟩) rfl G [1] [0] 2 rfl (by subst eSK11; rfl) rfl (by subst eSK11; rfl) rfl (by decide) (by decide) rfl (fun H locs G => ?_)
    refine lv_aload_n hx hb dX4_keep_108 rfl (lv_at hl 0 rfl) ?_
    refine r_get X inw_X4 G 0 rfl rfl 0 (by decide) fl_X4_9 (v := .ref (aSK 0)) rfl dX4_keep_109 ?_
    refine lv_iload hx hb dX4_keep_112 (lv_at hl 6 rfl) ?_
    refine lv_iconst (v := 4) hx hb dX4_keep_114 (by decide) ?_
    refine lv_iadd hx hb dX4_keep_115 ?_
    refine lv_iload hx hb dX4_keep_116 (lv_at hl 5 rfl) ?_
    obtain ⟨r12, hcr12, hf⟩ := bd_some hf
    obtain ⟨SK13, eSK13, hf⟩ := nm_some hf
    refine p_N (st1 := []) (wr := [(ot, .inr (4, [.ref (aSK 0), .int (Sk_eldest SK11), .int (Sk_kept SK11), .int (Sk_total SK11)]))]) (ws' := kSk k ot aSK (SK13)) (run_N (rest := []) X (ctX9_set hZ (aSK 0) hcr12) mk_X9_set mn_X4_29 ⟨(Nat.le_of_ble_eq_true rfl), (Nat.le_of_ble_eq_true rfl)⟩ G [1] rfl rfl rfl hl.1 rfl (Nat.le_of_ble_eq_true rfl) dX4_keep_118 ⟨Nat.zero_le _, Nat.zero_le _⟩) rfl G [1] [0] 2 rfl (by subst eSK13; rfl) rfl (by subst eSK13; rfl) rfl (by decide) (by decide) rfl (fun H locs G => ?_)
    cases hf
    exact e_mv X G dX4_keep_121
  refine lv_icmp_ge (tgt := 38) hx hb dX4_keep_22 (by decide) (fun c14 => ?_) (fun c14 => ?_)
  · replace hf := if_t hf c14
    refine lv_aload_n hx hb dX4_keep_38 rfl (lv_at hl 1 rfl) ?_
    refine lv_aload_n hx hb dX4_keep_39 rfl (lv_at hl 1 rfl) ?_
    refine r_get X inw_X4 G 0 rfl rfl 1 (by decide) fl_X4_15 (v := .int (Sk_eldest SK)) rfl dX4_keep_40 ?_
    refine lv_iconst (v := 1) hx hb dX4_keep_43 (by decide) ?_
    refine lv_iadd hx hb dX4_keep_44 ?_
    refine lv_bipush (v := 30) hx hb dX4_keep_45 (by decide) ?_
    refine lv_irem hx hb dX4_keep_47 (by decide) ?_
    obtain ⟨SK15, eSK15, hf⟩ := nm_some hf
    refine r_put X inw_X4 tyX4 tyX4_ok nmX4 G 0 rfl rfl 1 (by decide) fl_X4_15 rfl rfl rfl (Nat.le_of_ble_eq_true rfl) (ws' := kSk k ot aSK (SK15)) (by subst eSK15; rfl) dX4_keep_48 (fun H locs G => ?_)
    exact JJ2 SK15 _ _ _ G (lv_sub hl [1, 2, 3, 4, 5, 6, 0] rfl) hf
  · replace hf := if_f hf c14
    refine lv_aload_n hx hb dX4_keep_25 rfl (lv_at hl 1 rfl) ?_
    refine lv_dup hx hb dX4_keep_26 rfl ?_
    refine r_get X inw_X4 G 0 rfl rfl 2 (by decide) fl_X4_19 (v := .int (Sk_kept SK)) rfl dX4_keep_27 ?_
    refine lv_iconst (v := 1) hx hb dX4_keep_30 (by decide) ?_
    refine lv_iadd hx hb dX4_keep_31 ?_
    obtain ⟨SK16, eSK16, hf⟩ := nm_some hf
    refine r_put X inw_X4 tyX4 tyX4_ok nmX4 G 0 rfl rfl 2 (by decide) fl_X4_19 rfl rfl rfl (Nat.le_of_ble_eq_true rfl) (ws' := kSk k ot aSK (SK16)) (by subst eSK16; rfl) dX4_keep_32 (fun H locs G => ?_)
    refine lv_goto (tgt := 51) hx hb dX4_keep_35 (by decide) ?_
    exact JJ2 SK16 _ _ _ G (lv_sub hl [1, 2, 3, 4, 5, 6, 0] rfl) hf
theorem mk_X4_keep : MV yX4_keep cX4_keep 7 none 5 := ⟨co_X4_keep, in_X4, im_X4_keep, se_X4_keep, by decide +kernel, by decide +kernel⟩
noncomputable def FX4_part (SK : SkT) (v1 : Int32) (v2 : Int32) : Option (Int32) :=
  if v1 < 0 then (
    some (-1 : Int32)
  ) else (
    if (Sk_kept SK) ≤ v1 then (
      some (-1 : Int32)
    ) else (
      if v2 < 0 then (
        some (-1 : Int32)
      ) else (
        if v2 < (5 : Int32) then (
          (FX9_at 150 (Sk_rows SK) (((((Sk_eldest SK) + v1) - ((Sk_eldest SK) + v1) / (30 : Int32) * (30 : Int32)) * (5 : Int32)) + v2)).bind fun r5 =>
          some r5
        ) else (
          some (-1 : Int32)
        )
      )
    )
  )
set_option maxHeartbeats 4000000 in
set_option maxRecDepth 100000 in
theorem ctX4_part {l : Launch} {D : va_G} {k : Nat → ClassId} {Z : ZT} (hZ : ZOK Z) (ot : Nat) (aSK : Nat → Nat) {SK : SkT} {v1 : Int32} {v2 : Int32} {q : Int32} (hf : FX4_part SK v1 v2 = some q) :
    CR l D k Z yX4_part cX4_part 3 (some .int) 1 21 [.ref ot, .int v1, .int v2] (some (.int q)) (kSk k ot aSK (SK)) := by
  refine CR.start hZ (by decide) (Nat.le_of_ble_eq_true rfl) ?_
  intro p e s m below meth c ls X hl G
  have hx := X.1
  have hb := X.2.1
  have hl : lv_has ls 3 [(0, .ref ot), (1, .int v1), (2, .int v2)] := hl
  unfold FX4_part at hf
  refine lv_iload_n hx hb dX4_part_0 rfl (lv_at hl 1 rfl) ?_
  refine lv_if_lt (tgt := 21) hx hb dX4_part_1 (by decide) (fun c1 => ?_) (fun c1 => ?_)
  · replace hf := if_t hf c1
    refine lv_iconst (v := -1) hx hb dX4_part_21 (by decide) ?_
    cases hf
    exact e_ri X dX4_part_22
  · replace hf := if_f hf c1
    refine lv_iload_n hx hb dX4_part_4 rfl (lv_at hl 1 rfl) ?_
    refine lv_aload_n hx hb dX4_part_5 rfl (lv_at hl 0 rfl) ?_
    refine r_get X inw_X4 G 0 rfl rfl 2 (by decide) fl_X4_19 (v := .int (Sk_kept SK)) rfl dX4_part_6 ?_
    refine lv_icmp_ge (tgt := 21) hx hb dX4_part_9 (by decide) (fun c2 => ?_) (fun c2 => ?_)
    · replace hf := if_t hf c2
      refine lv_iconst (v := -1) hx hb dX4_part_21 (by decide) ?_
      cases hf
      exact e_ri X dX4_part_22
    · replace hf := if_f hf c2
      refine lv_iload_n hx hb dX4_part_12 rfl (lv_at hl 2 rfl) ?_
      refine lv_if_lt (tgt := 21) hx hb dX4_part_13 (by decide) (fun c3 => ?_) (fun c3 => ?_)
      · replace hf := if_t hf c3
        refine lv_iconst (v := -1) hx hb dX4_part_21 (by decide) ?_
        cases hf
        exact e_ri X dX4_part_22
      · replace hf := if_f hf c3
        refine lv_iload_n hx hb dX4_part_16 rfl (lv_at hl 2 rfl) ?_
        refine lv_iconst (v := 5) hx hb dX4_part_17 (by decide) ?_
        refine lv_icmp_lt (tgt := 23) hx hb dX4_part_18 (by decide) (fun c4 => ?_) (fun c4 => ?_)
        · replace hf := if_t hf c4
          refine lv_aload_n hx hb dX4_part_23 rfl (lv_at hl 0 rfl) ?_
          refine r_get X inw_X4 G 0 rfl rfl 0 (by decide) fl_X4_9 (v := .ref (aSK 0)) rfl dX4_part_24 ?_
          refine lv_aload_n hx hb dX4_part_27 rfl (lv_at hl 0 rfl) ?_
          refine r_get X inw_X4 G 0 rfl rfl 1 (by decide) fl_X4_15 (v := .int (Sk_eldest SK)) rfl dX4_part_28 ?_
          refine lv_iload_n hx hb dX4_part_31 rfl (lv_at hl 1 rfl) ?_
          refine lv_iadd hx hb dX4_part_32 ?_
          refine lv_bipush (v := 30) hx hb dX4_part_33 (by decide) ?_
          refine lv_irem hx hb dX4_part_35 (by decide) ?_
          refine lv_iconst (v := 5) hx hb dX4_part_36 (by decide) ?_
          refine lv_imul hx hb dX4_part_37 ?_
          refine lv_iload_n hx hb dX4_part_38 rfl (lv_at hl 2 rfl) ?_
          refine lv_iadd hx hb dX4_part_39 ?_
          obtain ⟨r5, hcr5, hf⟩ := bd_some hf
          refine p_R (st1 := [.int r5]) (run_N (rest := []) X (ctX9_at hZ (aSK 0) hcr5) mk_X9_at mn_X4_33 ⟨(Nat.le_of_ble_eq_true rfl), (Nat.le_of_ble_eq_true rfl)⟩ G [1] rfl rfl rfl hl.1 rfl (Nat.le_of_ble_eq_true rfl) dX4_part_40 ⟨Nat.zero_le _, Nat.zero_le _⟩) rfl ?_
          cases hf
          exact e_ri X dX4_part_43
        · replace hf := if_f hf c4
          refine lv_iconst (v := -1) hx hb dX4_part_21 (by decide) ?_
          cases hf
          exact e_ri X dX4_part_22
theorem mk_X4_part : MV yX4_part cX4_part 3 (some .int) 2 := ⟨co_X4_part, in_X4, im_X4_part, se_X4_part, by decide +kernel, by decide +kernel⟩
