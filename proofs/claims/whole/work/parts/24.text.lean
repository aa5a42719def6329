theorem sf_J0_38 : Cond.fieldLink RJ0 38 "java/lang/String" "COMPACT_STRINGS" "Z" ∈ TB := tb_in (List.mem_append_right _ (List.mem_of_getElem? (i := 432) (by decide +kernel))) (by decide +kernel)
theorem sf_J0_1053 : Cond.fieldLink RJ0 1053 "jdk/internal/util/Preconditions" "SIOOBE_FORMATTER" "Ljava/util/function/BiFunction;" ∈ TB := tb_in (List.mem_append_right _ (List.mem_of_getElem? (i := 448) (by decide +kernel))) (by decide +kernel)
theorem sf_X2_105 : Cond.fieldLink RX2 105 "HangWatch$Reader" "LEAST" "[I" ∈ TB := tb_in (List.mem_append_right _ (List.mem_of_getElem? (i := 507) (by decide +kernel))) (by decide +kernel)
theorem sf_X2_108 : Cond.fieldLink RX2 108 "HangWatch$Reader" "MOST" "[I" ∈ TB := tb_in (List.mem_append_right _ (List.mem_of_getElem? (i := 512) (by decide +kernel))) (by decide +kernel)
theorem sf_X10_244 : Cond.fieldLink RX10 244 "HangWatchModel" "SORTS" "[J" ∈ TB := tb_in (List.mem_append_right _ (List.mem_of_getElem? (i := 1277) (by decide +kernel))) (by decide +kernel)
theorem sf_J0_9 : Cond.fieldLink RJ0 9 "java/lang/String" "value" "[B" ∈ TB := tb_in (List.mem_append_right _ (List.mem_of_getElem? (i := 1300) (by decide +kernel))) (by decide +kernel)
theorem sf_J0_15 : Cond.fieldLink RJ0 15 "java/lang/String" "coder" "B" ∈ TB := tb_in (List.mem_append_right _ (List.mem_of_getElem? (i := 1301) (by decide +kernel))) (by decide +kernel)
def LEl : List Int32 := [1, 0, 0, 0, 0, 0, 0, 1, 0, 0, 1, 0, 0, 0, 1]
def MOl : List Int32 := [50, 5, 5, 3, 3, 7, 7, 99, 0, 0, 50, 50, 3, 0, 9]
def SOl : List Int64 := [464141, 247223, 131360, 12251, 5258, 378004, 985142, 358472, 670208, 388978]
def WDl : List Int32 := [119, 111, 114, 107, 32, 32, 108, 111, 99, 107, 32, 32, 102, 114, 101, 101, 32, 32, 112, 117, 116, 32, 32, 32, 103, 101, 116, 32, 32, 32, 115, 101, 110, 100, 32, 32, 97, 119, 97, 105, 116, 32, 114, 101, 115, 116, 32, 32, 97, 103, 97, 105, 110, 32, 115, 116, 111, 112, 32, 32, 119, 105, 110, 100, 111, 119, 103, 114, 97, 99, 101, 32, 112, 105, 112, 101, 32, 32, 119, 111, 114, 107, 101, 114]
def LEf (j : Nat) : Int32 := LEl.getD j 0
def MOf (j : Nat) : Int32 := MOl.getD j 0
def SOf (j : Nat) : Int64 := SOl.getD j 0
def WDf (j : Nat) : Int32 := WDl.getD j 0
def SZ (t : Nat → Nat) (A : Nat → Prop) (U : State) : Prop :=
  (va_Z "HangWatch$Reader" "LEAST" "[I" (.ref (t 0)) A U U.heap ∧ va_T .int (t 0) 15 (fun j => .int (LEf j)) A U U.heap) ∧ (va_Z "HangWatch$Reader" "MOST" "[I" (.ref (t 1)) A U U.heap ∧ va_T .int (t 1) 15 (fun j => .int (MOf j)) A U U.heap) ∧ (va_Z "HangWatchModel" "SORTS" "[J" (.ref (t 2)) A U U.heap ∧ va_T .long (t 2) 10 (fun j => .long (SOf j)) A U U.heap) ∧
  vk_R "HangWatch$Reader" 155 "work  lock  free  put   get   send  await rest  again stop  windowgrace pipe  worker" (t 3) U ∧ (va_O "java/lang/String" (t 3) A U U.heap ∧ va_OF "java/lang/String" "coder" "B" (.int 0) (t 3) A U U.heap ∧ va_OF "java/lang/String" "value" "[B" (.ref (t 4)) (t 3) A U U.heap ∧ va_T .byte (t 4) 84 (fun j => .int (WDf j)) A U U.heap) ∧ va_Z "java/lang/String" "COMPACT_STRINGS" "Z" (.int 1) A U U.heap ∧ va_Zq "jdk/internal/util/Preconditions" "SIOOBE_FORMATTER" "Ljava/util/function/BiFunction;" A U U.heap
theorem SZ_ok (t : Nat → Nat) : ZOK (SZ t) := by
  refine ⟨fun A B U h z => ?_, fun A u U hW hq z => ?_⟩
  · obtain ⟨⟨a1, a2⟩, ⟨b1, b2⟩, ⟨c1, c2⟩, d, ⟨e1, e2, e3, e4⟩, f, g⟩ := z
    exact ⟨⟨a1.narrow h, a2.narrow h⟩, ⟨b1.narrow h, b2.narrow h⟩, ⟨c1.narrow h, c2.narrow h⟩, d, ⟨e1.narrow h, e2.narrow h, e3.narrow h, e4.narrow h⟩, f.narrow h, g.narrow h⟩
  · obtain ⟨⟨a1, a2⟩, ⟨b1, b2⟩, ⟨c1, c2⟩, d, ⟨e1, e2, e3, e4⟩, f, g⟩ := z
    have m := hW.alike
    exact ⟨⟨(va_Z.moved m a1).kept hq, (va_T.moved m a2).kept hq⟩, ⟨(va_Z.moved m b1).kept hq, (va_T.moved m b2).kept hq⟩, ⟨(va_Z.moved m c1).kept hq, (va_T.moved m c2).kept hq⟩, vk_R.warm hW d, ⟨(va_O.moved m e1).kept hq, (va_OF.moved m e2).kept hq, (va_OF.moved m e3).kept hq, (va_T.moved m e4).kept hq⟩, (va_Z.moved m f).kept hq, (va_Zq.moved m g).kept hq⟩
theorem WD_c : ∀ j : Nat, j < 84 → ((WDf j &&& 255).toUInt32 % 65536).toInt32 = WDf j ∧ narrow .char (.int (WDf j)) = .int (WDf j) := by decide +kernel
section TX
variable {p : Program} {l : Launch} {e : Env} {R : Room} {s : State} {m : MethodId} {args : Array Value} {below : List Frame} {meth : Method} {c : Code} {H : Heap} {locs : List Loc} {cells slots : Nat} {Q : State → Prop}
variable {D : va_G} {k : Nat → ClassId} {Z : ZT} {cc : ByteArray} {mL : Nat} {ret : Option FieldType} {own : String} {A : Nat → Prop} {ws ws' wc : va_W} {pc a : Nat} {ls : Array Slot} {rest : List Value}
variable {y : MethodName} {bytes : ByteArray} {mLy n index fr lo b : Nat} {rety : Option FieldType} {As st0 : List Value}
theorem e_rx {v : Int32} {ty : FieldType} (hn : narrow ty (.int v) = .int v) (X : Cx p s m meth c D k Z A cc mL (some ty) own) (hdg : decode cc pc = .ok (.ireturn, 1)) : W p l e R s m args below meth c s.heap [] cells slots (MQ below (Qr (some (.int v))) args s cells slots (fun _ => False)) (F0 m pc ls [.int v]) :=
  W.zret X.1 X.2.1 X.2.2.1 hn (fun t ht _ => ⟨rfl, ht⟩) (fun _ h => by cases h) hdg X.2.2.2.1
theorem run_W (X : Cx p s m meth c D k Z A cc mL ret own) {Qc : Array Value → State → Outcome → State → Prop} {free : Nat → Prop} (hC : Met l y [.code y bytes mLy rety] (rmz fr lo) (Pw D k Z (.ref b :: As) wc) Qc 0 0 free) (hM : MV y bytes mLy rety n) (hl : Cond.methodLink own index y ∈ TB) (hR : fr + 1 ≤ R.frames ∧ 8 + (mLy + 11) + lo ≤ R.locals) (G : Wo D A s.heap ws H locs) (is : List Nat) (hs : is.map (fun i => ws[i]?) = wc.map some) (hn : va_nd is = true)
    (hrecv : ∃ cell : Cell, H[b]? = some cell ∧ cell.vm.isStatics = false ∧ s.vm.findClass y.cls = some cell.cls) (hAs : As.length = n) (hsz : ls.size = mL) (hst : st0 = As.reverse ++ .ref b :: rest) (hW : (rest.map fun v => v.category).sum ≤ 8) (hdg : decode cc pc = .ok (.invokevirtual index, 3)) (hf : cells ≤ R.cells ∧ slots ≤ R.slots) :
    va_Run p l e R s m args below meth c H locs cells slots 0 0 (F0 m pc ls st0) rest (Qc (Value.ref b :: As).toArray) free :=
  va_runV (Ts := TB) ⟨X.1, X.2.1, X.2.2.2.2.1, X.2.2.2.2.2.1, fun w hw => X.2.2.2.2.2.2.1.use hw⟩ hC ⟨cb_of X.2.2.2.2.2.2.1 ⟨hM.1, hM.2.1⟩ hM.2.2.2.2 hl hR, X.2.2.2.2.2.2.1.use hM.2.2.1, X.2.2.2.2.2.2.1.use hM.2.2.2.1⟩ ⟨Pw.blind X.2.2.2.2.2.2.2.2.2, hrecv, pw_at X G is hs hn⟩ rfl hAs hsz hst (lv_room hW) hdg hf
theorem sz_recv {t : Nat → Nat} (hz : SZ t A s) (hS : va_S A s.heap H locs) : ∃ cell : Cell, H[t 3]? = some cell ∧ cell.vm.isStatics = false ∧ s.vm.findClass "java/lang/String" = some cell.cls := by
  obtain ⟨cell, h1, h2, h3, -⟩ := hz.2.2.2.2.1.1.kept hS.2.1
  exact ⟨cell, h1, h2, h3⟩
theorem r_gets {C nn d : String} {v : Value} (X : Cx p s m meth c D k Z A cc mL ret own) (G : Wo D A s.heap ws H locs) (hz : va_Z C nn d v A s s.heap) (hlink : Cond.fieldLink own index C nn d ∈ TB) (hdg : decode cc pc = .ok (.getstatic index, 3))
    (kk : W p l e R s m args below meth c H locs cells slots Q (F0 m (pc + 3) ls (v :: rest))) : W p l e R s m args below meth c H locs cells slots Q (F0 m pc ls rest) :=
  va_gets X.1 X.2.1 hz G.2.2 X.2.2.2.2.2.1 (X.2.2.2.2.2.2.1.use hlink) (fun _ h => h) hdg kk
theorem r_getT {C nn d : String} {v : Value} {q : Nat} (X : Cx p s m meth c D k Z A cc mL ret own) (G : Wo D A s.heap ws H locs) (hz : va_OF C nn d v q A s s.heap) (hlink : Cond.fieldLink own index C nn d ∈ TB) (hdg : decode cc pc = .ok (.getfield index, 3))
    (kk : W p l e R s m args below meth c H locs cells slots Q (F0 m (pc + 3) ls (v :: rest))) : W p l e R s m args below meth c H locs cells slots Q (F0 m pc ls (.ref q :: rest)) :=
  vk_getf X.1 X.2.1 hz G.2.2 X.2.2.2.2.2.1 (X.2.2.2.2.2.2.1.use hlink) (fun _ h => h) hdg kk
end TX
theorem mk_coder : MV yJ0_coder_7d493 cJ0_coder_7d493 1 (some .byte) 0 := ⟨co_J0_coder_7d493, in_J0, im_J0_coder_7d493, se_J0_coder_7d493, by decide +kernel, by decide +kernel⟩
theorem mk_lat : MV yJ0_isLatin1_aae02 cJ0_isLatin1_aae02 1 (some .boolean) 0 := ⟨co_J0_isLatin1_aae02, in_J0, im_J0_isLatin1_aae02, se_J0_isLatin1_aae02, by decide +kernel, by decide +kernel⟩
theorem mk_len : MV yJ0_length_8abf5 cJ0_length_8abf5 1 (some .int) 0 := ⟨co_J0_length_8abf5, in_J0, im_J0_length_8abf5, se_J0_length_8abf5, by decide +kernel, by decide +kernel⟩
theorem mk_chr : MV yJ0_charAt_5068e cJ0_charAt_5068e 2 (some .char) 1 := ⟨co_J0_charAt_5068e, in_J0, im_J0_charAt_5068e, se_J0_charAt_5068e, by decide +kernel, by decide +kernel⟩
theorem mk_chr1 : MS yJ1_charAt_3b067 cJ1_charAt_3b067 2 (some .char) 2 := ⟨co_J1_charAt_3b067, in_J1, st_J1_charAt_3b067, trivial, by decide +kernel, by decide +kernel⟩
theorem mk_cki : MS yJ0_checkIndex_df160 cJ0_checkIndex_df160 2 none 2 := ⟨co_J0_checkIndex_df160, in_J0, st_J0_checkIndex_df160, trivial, by decide +kernel, by decide +kernel⟩
theorem mk_ckp : MS yJ3_checkIndex_8e157 cJ3_checkIndex_8e157 3 (some .int) 3 := ⟨co_J3_checkIndex_8e157, in_J3, st_J3_checkIndex_8e157, trivial, by decide +kernel, by decide +kernel⟩
theorem ct_coder {l : Launch} {D : va_G} {k : Nat → ClassId} (t : Nat → Nat) : CR l D k (SZ t) yJ0_coder_7d493 cJ0_coder_7d493 1 (some .byte) 0 0 [.ref (t 3)] (some (.int 0)) [] := by
  refine CR.start (SZ_ok t) (by decide) (Nat.le_of_ble_eq_true rfl) ?_
  intro p e s m below meth c ls X hl G
  have hx := X.1
  have hb := X.2.1
  have hz : SZ t (wA []) s := X.2.2.2.2.2.2.2.2.1
  have hl : lv_has ls 1 [(0, .ref (t 3))] := hl
  refine r_gets X G hz.2.2.2.2.2.1 sf_J0_38 dJ0_coder_7d493_0 ?_
  refine lv_if_eq (tgt := 13) hx hb dJ0_coder_7d493_3 (by decide) (fun c => absurd c (by decide)) (fun _ => ?_)
  refine lv_aload_n hx hb dJ0_coder_7d493_6 rfl (lv_at hl 0 rfl) ?_
  refine r_getT X G hz.2.2.2.2.1.2.1 sf_J0_15 dJ0_coder_7d493_7 ?_
  refine lv_goto (tgt := 14) hx hb dJ0_coder_7d493_10 (by decide) ?_
  exact e_rx rfl X dJ0_coder_7d493_14
theorem ct_lat {l : Launch} {D : va_G} {k : Nat → ClassId} (t : Nat → Nat) : CR l D k (SZ t) yJ0_isLatin1_aae02 cJ0_isLatin1_aae02 1 (some .boolean) 0 0 [.ref (t 3)] (some (.int 1)) [] := by
  refine CR.start (SZ_ok t) (by decide) (Nat.le_of_ble_eq_true rfl) ?_
  intro p e s m below meth c ls X hl G
  have hx := X.1
  have hb := X.2.1
  have hz : SZ t (wA []) s := X.2.2.2.2.2.2.2.2.1
  have hl : lv_has ls 1 [(0, .ref (t 3))] := hl
  refine r_gets X G hz.2.2.2.2.2.1 sf_J0_38 dJ0_isLatin1_aae02_0 ?_
  refine lv_if_eq (tgt := 17) hx hb dJ0_isLatin1_aae02_3 (by decide) (fun c => absurd c (by decide)) (fun _ => ?_)
  refine lv_aload_n hx hb dJ0_isLatin1_aae02_6 rfl (lv_at hl 0 rfl) ?_
  refine r_getT X G hz.2.2.2.2.1.2.1 sf_J0_15 dJ0_isLatin1_aae02_7 ?_
  refine lv_if_ne (tgt := 17) hx hb dJ0_isLatin1_aae02_10 (by decide) (fun c => absurd rfl c) (fun _ => ?_)
  refine lv_iconst (v := 1) hx hb dJ0_isLatin1_aae02_13 (by decide) ?_
  refine lv_goto (tgt := 18) hx hb dJ0_isLatin1_aae02_14 (by decide) ?_
  exact e_rx rfl X dJ0_isLatin1_aae02_18
theorem ct_len {l : Launch} {D : va_G} {k : Nat → ClassId} (t : Nat → Nat) : CR l D k (SZ t) yJ0_length_8abf5 cJ0_length_8abf5 1 (some .int) 1 20 [.ref (t 3)] (some (.int 84)) [] := by
  refine CR.start (SZ_ok t) (by decide) (Nat.le_of_ble_eq_true rfl) ?_
  intro p e s m below meth c ls X hl G
  have hx := X.1
  have hb := X.2.1
  have hz : SZ t (wA []) s := X.2.2.2.2.2.2.2.2.1
  have hl : lv_has ls 1 [(0, .ref (t 3))] := hl
  refine lv_aload_n hx hb dJ0_length_8abf5_0 rfl (lv_at hl 0 rfl) ?_
  refine r_getT X G hz.2.2.2.2.1.2.2.1 sf_J0_9 dJ0_length_8abf5_1 ?_
  refine va_tlen hx hb hz.2.2.2.2.1.2.2.2 G.2.2 rfl dJ0_length_8abf5_4 ?_
  refine lv_aload_n hx hb dJ0_length_8abf5_5 rfl (lv_at hl 0 rfl) ?_
  refine p_R (st1 := [.int 0, .int (Int32.ofNat 84)]) (run_W (rest := [.int (Int32.ofNat 84)]) X (ct_coder t) mk_coder ml_J0_335 ⟨(Nat.le_of_ble_eq_true rfl), (Nat.le_of_ble_eq_true rfl)⟩ G [] rfl rfl (sz_recv hz G.2.2) rfl hl.1 rfl (Nat.le_of_ble_eq_true rfl) dJ0_length_8abf5_6 ⟨Nat.zero_le _, Nat.zero_le _⟩) rfl ?_
  refine lv_ishr hx hb dJ0_length_8abf5_9 ?_
  refine r_top (y := .int 84) (by decide) ?_
  exact e_ri X dJ0_length_8abf5_10
theorem ct_ckp {l : Launch} {D : va_G} {k : Nat → ClassId} {Z : ZT} (hZ : ZOK Z) {i n : Int32} {w : Value} (hw : w.category = 1) (h0 : ¬ i < 0) (h1 : i < n) : CR l D k Z yJ3_checkIndex_8e157 cJ3_checkIndex_8e157 3 (some .int) 0 0 [.int i, .int n, w] (some (.int i)) [] := by
  refine CR.start hZ (by decide) (by simp [lg_sl, hw]; simp [Value.category]) ?_
  intro p e s m below meth c ls X hl G
  have hx := X.1
  have hb := X.2.1
  have hl : lv_has ls 3 [(0, .int i), (1, .int n)] := lv_sub hl [0, 1] rfl
  refine lv_iload_n hx hb dJ3_checkIndex_8e157_0 rfl (lv_at hl 0 rfl) ?_
  refine lv_if_lt (tgt := 9) hx hb dJ3_checkIndex_8e157_1 (by decide) (fun c => absurd c h0) (fun _ => ?_)
  refine lv_iload_n hx hb dJ3_checkIndex_8e157_4 rfl (lv_at hl 0 rfl) ?_
  refine lv_iload_n hx hb dJ3_checkIndex_8e157_5 rfl (lv_at hl 1 rfl) ?_
  refine lv_icmp_lt (tgt := 16) hx hb dJ3_checkIndex_8e157_6 (by decide) (fun _ => ?_) (fun c => absurd h1 c)
  refine lv_iload_n hx hb dJ3_checkIndex_8e157_16 rfl (lv_at hl 0 rfl) ?_
  exact e_ri X dJ3_checkIndex_8e157_17
theorem ct_cki {l : Launch} {D : va_G} {k : Nat → ClassId} (t : Nat → Nat) {i n : Int32} (h0 : ¬ i < 0) (h1 : i < n) : CR l D k (SZ t) yJ0_checkIndex_df160 cJ0_checkIndex_df160 2 none 1 22 [.int i, .int n] none [] := by
  refine CR.start (SZ_ok t) (by decide) (Nat.le_of_ble_eq_true rfl) ?_
  intro p e s m below meth c ls X hl G
  have hx := X.1
  have hb := X.2.1
  have hz : SZ t (wA []) s := X.2.2.2.2.2.2.2.2.1
  have hl : lv_has ls 2 [(0, .int i), (1, .int n)] := hl
  refine lv_iload_n hx hb dJ0_checkIndex_df160_0 rfl (lv_at hl 0 rfl) ?_
  refine lv_iload_n hx hb dJ0_checkIndex_df160_1 rfl (lv_at hl 1 rfl) ?_
  rcases hz.2.2.2.2.2.2 with hq | ⟨q, hq⟩
  · refine r_gets X G hq sf_J0_1053 dJ0_checkIndex_df160_2 ?_
    refine p_R (st1 := [.int i]) (run_S (rest := []) X (ct_ckp (SZ_ok t) (w := .null) rfl h0 h1) mk_ckp ml_J0_1059 ⟨(Nat.le_of_ble_eq_true rfl), (Nat.le_of_ble_eq_true rfl)⟩ G [] rfl rfl rfl hl.1 rfl (Nat.le_of_ble_eq_true rfl) dJ0_checkIndex_df160_5 ⟨Nat.zero_le _, Nat.zero_le _⟩) rfl ?_
    refine lv_pop hx hb dJ0_checkIndex_df160_8 rfl ?_
    exact e_rv X dJ0_checkIndex_df160_9
  · refine r_gets X G hq sf_J0_1053 dJ0_checkIndex_df160_2 ?_
    refine p_R (st1 := [.int i]) (run_S (rest := []) X (ct_ckp (SZ_ok t) (w := .ref q) rfl h0 h1) mk_ckp ml_J0_1059 ⟨(Nat.le_of_ble_eq_true rfl), (Nat.le_of_ble_eq_true rfl)⟩ G [] rfl rfl rfl hl.1 rfl (Nat.le_of_ble_eq_true rfl) dJ0_checkIndex_df160_5 ⟨Nat.zero_le _, Nat.zero_le _⟩) rfl ?_
    refine lv_pop hx hb dJ0_checkIndex_df160_8 rfl ?_
    exact e_rv X dJ0_checkIndex_df160_9
theorem ct_chr1 {l : Launch} {D : va_G} {k : Nat → ClassId} (t : Nat → Nat) {i : Int32} (hi : vp_in i 84) : CR l D k (SZ t) yJ1_charAt_3b067 cJ1_charAt_3b067 2 (some .char) 2 43 [.ref (t 4), .int i] (some (.int (WDf i.toNatClampNeg))) [] := by
  obtain ⟨j, hj, rfl⟩ := vp_in_of hi (by decide)
  refine CR.start (SZ_ok t) (by decide) (Nat.le_of_ble_eq_true rfl) ?_
  intro p e s m below meth c ls X hl G
  have hx := X.1
  have hb := X.2.1
  have hz : SZ t (wA []) s := X.2.2.2.2.2.2.2.2.1
  have hl : lv_has ls 2 [(0, .ref (t 4)), (1, .int (nI j))] := hl
  refine lv_iload_n hx hb dJ1_charAt_3b067_0 rfl (lv_at hl 1 rfl) ?_
  refine lv_aload_n hx hb dJ1_charAt_3b067_1 rfl (lv_at hl 0 rfl) ?_
  refine va_tlen hx hb hz.2.2.2.2.1.2.2.2 G.2.2 rfl dJ1_charAt_3b067_2 ?_
  refine p_R (st1 := []) (run_S (rest := []) X (ct_cki t (i := nI j) (n := Int32.ofNat 84) (nI_pos (by omega)) (nI_lt hj (by decide))) mk_cki ml_J1_9 ⟨(Nat.le_of_ble_eq_true rfl), (Nat.le_of_ble_eq_true rfl)⟩ G [] rfl rfl rfl hl.1 rfl (Nat.le_of_ble_eq_true rfl) dJ1_charAt_3b067_3 ⟨Nat.zero_le _, Nat.zero_le _⟩) rfl ?_
  refine lv_aload_n hx hb dJ1_charAt_3b067_6 rfl (lv_at hl 0 rfl) ?_
  refine lv_iload_n hx hb dJ1_charAt_3b067_7 rfl (lv_at hl 1 rfl) ?_
  refine va_tb hx hb hz.2.2.2.2.1.2.2.2 G.2.2 hi rfl dJ1_charAt_3b067_8 ?_
  refine lv_sipush (v := 255) hx hb dJ1_charAt_3b067_9 (by decide) ?_
  refine lv_iand hx hb dJ1_charAt_3b067_12 ?_
  refine lv_i2c hx hb dJ1_charAt_3b067_13 rfl ?_
  have hc := WD_c ((nI j).toNatClampNeg) (by rw [nI_clamp (by omega)]; exact hj)
  refine r_top (y := .int (WDf (nI j).toNatClampNeg)) (congrArg Value.int hc.1.symm) ?_
  exact e_rx hc.2 X dJ1_charAt_3b067_14
theorem ct_chr {l : Launch} {D : va_G} {k : Nat → ClassId} (t : Nat → Nat) {i : Int32} (hi : vp_in i 84) : CR l D k (SZ t) yJ0_charAt_5068e cJ0_charAt_5068e 2 (some .char) 3 64 [.ref (t 3), .int i] (some (.int (WDf i.toNatClampNeg))) [] := by
  refine CR.start (SZ_ok t) (by decide) (Nat.le_of_ble_eq_true rfl) ?_
  intro p e s m below meth c ls X hl G
  have hx := X.1
  have hb := X.2.1
  have hz : SZ t (wA []) s := X.2.2.2.2.2.2.2.2.1
  have hl : lv_has ls 2 [(0, .ref (t 3)), (1, .int i)] := hl
  refine lv_aload_n hx hb dJ0_charAt_5068e_0 rfl (lv_at hl 0 rfl) ?_
  refine p_R (st1 := [.int 1]) (run_W (rest := []) X (ct_lat t) mk_lat ml_J0_492 ⟨(Nat.le_of_ble_eq_true rfl), (Nat.le_of_ble_eq_true rfl)⟩ G [] rfl rfl (sz_recv hz G.2.2) rfl hl.1 rfl (Nat.le_of_ble_eq_true rfl) dJ0_charAt_5068e_1 ⟨Nat.zero_le _, Nat.zero_le _⟩) rfl ?_
  refine lv_if_eq (tgt := 16) hx hb dJ0_charAt_5068e_4 (by decide) (fun c => absurd c (by decide)) (fun _ => ?_)
  refine lv_aload_n hx hb dJ0_charAt_5068e_7 rfl (lv_at hl 0 rfl) ?_
  refine r_getT X G hz.2.2.2.2.1.2.2.1 sf_J0_9 dJ0_charAt_5068e_8 ?_
  refine lv_iload_n hx hb dJ0_charAt_5068e_11 rfl (lv_at hl 1 rfl) ?_
  refine p_R (st1 := [.int (WDf i.toNatClampNeg)]) (run_S (rest := []) X (ct_chr1 t hi) mk_chr1 ml_J0_495 ⟨(Nat.le_of_ble_eq_true rfl), (Nat.le_of_ble_eq_true rfl)⟩ G [] rfl rfl rfl hl.1 rfl (Nat.le_of_ble_eq_true rfl) dJ0_charAt_5068e_12 ⟨Nat.zero_le _, Nat.zero_le _⟩) rfl ?_
  obtain ⟨j, hj, rfl⟩ := vp_in_of hi (by decide)
  exact e_rx (WD_c ((nI j).toNatClampNeg) (by rw [nI_clamp (by omega)]; exact hj)).2 X dJ0_charAt_5068e_15
/-- HangWatch.at over a table -/
theorem ctX9_at_T {l : Launch} {D : va_G} {k : Nat → ClassId} {Z : ZT} (hZ : ZOK Z) {a n1 : Nat} {f1 : Nat → Int32} (hT : ∀ (A : Nat → Prop) (U : State), Z A U → va_T .int a n1 (fun j => .int (f1 j)) A U U.heap) {v2 q : Int32} (hf : FX9_at n1 f1 v2 = some q) :
    CR l D k Z yX9_at cX9_at 2 (some .int) 0 0 [.ref a, .int v2] (some (.int q)) [] := by
  refine CR.start hZ (by decide) (Nat.le_of_ble_eq_true rfl) ?_
  intro p e s m below meth c ls X hl G
  have hx := X.1
  have hb := X.2.1
  have hz := hT _ _ X.2.2.2.2.2.2.2.2.1
  have hl : lv_has ls 2 [(0, .ref a), (1, .int v2)] := hl
  unfold FX9_at at hf
  refine lv_iload_n hx hb dX9_at_0 rfl (lv_at hl 1 rfl) ?_
  refine lv_if_lt (tgt := 16) hx hb dX9_at_1 (by decide) (fun c1 => ?_) (fun c1 => ?_)
  · replace hf := if_t hf c1
    refine lv_iconst (v := -1) hx hb dX9_at_16 (by decide) ?_
    cases hf
    exact e_ri X dX9_at_17
  · replace hf := if_f hf c1
    refine lv_iload_n hx hb dX9_at_4 rfl (lv_at hl 1 rfl) ?_
    refine lv_aload_n hx hb dX9_at_5 rfl (lv_at hl 0 rfl) ?_
    refine va_tlen hx hb hz G.2.2 rfl dX9_at_6 ?_
    refine lv_icmp_ge (tgt := 16) hx hb dX9_at_7 (by decide) (fun c2 => ?_) (fun c2 => ?_)
    · replace hf := if_t hf c2
      refine lv_iconst (v := -1) hx hb dX9_at_16 (by decide) ?_
      cases hf
      exact e_ri X dX9_at_17
    · replace hf := if_f hf c2
      refine lv_aload_n hx hb dX9_at_10 rfl (lv_at hl 0 rfl) ?_
      refine lv_iload_n hx hb dX9_at_11 rfl (lv_at hl 1 rfl) ?_
      obtain ⟨h3, hf⟩ := ix_some hf
      refine va_ti hx hb hz G.2.2 h3 rfl dX9_at_12 ?_
      refine lv_goto (tgt := 17) hx hb dX9_at_13 (by decide) ?_
      cases hf
      exact e_ri X dX9_at_17
