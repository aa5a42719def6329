theorem wo_fn {D : va_G} {A : Nat → Prop} {H0 H : Heap} {ws : va_W} {locs : List Loc} {a n : Nat} {cA : ClassId} {f : Nat → Option Nat} (G : Wo D A H0 ws H locs) (q0 : Nat) {f2 : Nat → Option Nat} (he : ws[q0]? = some (a, .inl (cA, n, .inr (.inr (.inr (.inr f)))))) (hf : ∀ i, i < n → f i = f2 i) : Wo D A H0 (ws.set q0 (a, .inl (cA, n, .inr (.inr (.inr (.inr f2)))))) H locs := by
  have e : vp_cell cA (n, .inr (.inr (.inr (.inr f)))) = vp_cell cA (n, .inr (.inr (.inr (.inr f2)))) := by
    rw [vp_cell_q, vp_cell_q]
    unfold arrV
    congr 2
    funext j
    show va_rf (f j.1) = va_rf (f2 j.1)
    rw [hf j.1 j.2]
  refine ⟨?_, G.2.1.set he, G.2.2⟩
  exact G.1.set G.2.1 he (show H[a]? = some (vp_cell cA (n, .inr (.inr (.inr (.inr f2))))) from by rw [← e]; exact G.1 q0 _ he) (fun q _ => rfl)
theorem wo_perm {D : va_G} {A : Nat → Prop} {H0 H : Heap} {ws ws' : va_W} {locs : List Loc} (G : Wo D A H0 ws H locs) (is : List Nat) (hn : va_nd is = true) (hs : is.map (fun i => ws[i]?) = ws'.map some) : Wo D A H0 ws' H locs := by
  refine ⟨fun k q hk => ?_, G.2.1.sub is hn hs, G.2.2⟩
  obtain ⟨i, -, h2⟩ := sub_at hs hk
  exact G.1 i q h2
abbrev fz : Nat → Int32 := fun _ => 0
abbrev Sc0 : ScT := (0, 4, 6, fz, fz, fz, fz, fz, (fun j => if j < 6 then (-1) else 0), fz, fz)
abbrev Sk0 : SkT := (fz, 0, 0, 0)
abbrev Tp0 : TpT := (fz, 0)
abbrev Pl0 : PlT := (0, 4, 6, fz, fz, fz, fz, (fun j => if j < 4 then 1 else 0))
abbrev Vw0 : VwT := (0, 0, 0, 0, 0, 0, 0, 0, fz, fz, fz, 0, 0)
abbrev Tr0 : TrT := fz
abbrev Wd0 : WdT := (0, -1)
abbrev Rd0 : RdT := (fz, 0, -1, 0, 0, 0, 0, -1, -1, -1)
abbrev Hi0 : HiT := (0, 0)
abbrev Mo00 : MoT := (fz, fz, fz, 0, 0, -1, 0, 0, fz, 0, 0, 0, 0, 0, 0, 0, 0, 0, fz, fz, fz, 0)
theorem mi_X3 : MI yX3_init cX3_init 1 0 := ⟨co_X3_init, in_X3, im_X3_init, rfl, by decide +kernel, by decide +kernel⟩
set_option maxHeartbeats 4000000 in
set_option maxRecDepth 100000 in
theorem cn_X3 {l : Launch} {D : va_G} {k : Nat → ClassId} {Z : ZT} (hZ : ZOK Z) (h0 : Nat) : CN l D k Z yX3_init cX3_init 1 none 1 23 8 114 [.ref h0] none ([(h0, .inr (3, [.int 0, .int 0, .int 0, .null, .null, .null, .null, .null, .null, .null, .null]))]) (fun w1 => ∃ (a0 : Nat → Nat), w1 = kSc k h0 a0 Sc0) := by
  refine CN.start hZ (by decide) (Nat.le_of_ble_eq_true rfl) ?_
  intro p e s m below meth c ls X hin hl G
  have hx := X.1
  have hb := X.2.1
  have hA : ∀ q : Nat, s.heap.size ≤ q → va_A ([(h0, .inr (3, [.int 0, .int 0, .int 0, .null, .null, .null, .null, .null, .null, .null, .null]))]) s.heap.size q := fun _ h => Or.inr h
  have hl : lv_has ls 1 [(0, .ref h0)] := hl
  refine lv_aload_n hx hb dX3_init_0 rfl (lv_at hl 0 rfl) ?_
  refine r_oi X ml_X3_3 oi_im oi_co hl.1 dX3_init_1 (Nat.le_of_ble_eq_true rfl) (Nat.le_of_ble_eq_true rfl) ?_
  refine lv_aload_n hx hb dX3_init_4 rfl (lv_at hl 0 rfl) ?_
  refine lv_iconst (v := 0) hx hb dX3_init_5 (by decide) ?_
  refine r_put X inw_X3 tyX3 tyX3_ok nmX3 G 0 rfl rfl 0 (by decide) fl_X3_9 rfl rfl rfl (Nat.le_of_ble_eq_true rfl) (ws' := [(h0, .inr (3, [.int (0), .int 0, .int 0, .null, .null, .null, .null, .null, .null, .null, .null]))]) rfl dX3_init_6 (fun H locs G => ?_)
  refine lv_aload_n hx hb dX3_init_9 rfl (lv_at hl 0 rfl) ?_
  refine lv_iconst (v := 4) hx hb dX3_init_10 (by decide) ?_
  refine r_put X inw_X3 tyX3 tyX3_ok nmX3 G 0 rfl rfl 1 (by decide) fl_X3_15 rfl rfl rfl (Nat.le_of_ble_eq_true rfl) (ws' := [(h0, .inr (3, [.int (0), .int (4), .int 0, .null, .null, .null, .null, .null, .null, .null, .null]))]) rfl dX3_init_11 (fun H locs G => ?_)
  refine lv_aload_n hx hb dX3_init_14 rfl (lv_at hl 0 rfl) ?_
  refine lv_bipush (v := 6) hx hb dX3_init_15 (by decide) ?_
  refine r_put X inw_X3 tyX3 tyX3_ok nmX3 G 0 rfl rfl 2 (by decide) fl_X3_18 rfl rfl rfl (Nat.le_of_ble_eq_true rfl) (ws' := [(h0, .inr (3, [.int (0), .int (4), .int (6), .null, .null, .null, .null, .null, .null, .null, .null]))]) rfl dX3_init_17 (fun H locs G => ?_)
  refine lv_aload_n hx hb dX3_init_20 rfl (lv_at hl 0 rfl) ?_
  refine lv_bipush (v := 8) hx hb dX3_init_21 (by decide) ?_
  refine r_newa (atype := .int) X G hA ac_int rfl 0 rfl 8 rfl (by decide) (by decide) (by decide) (Nat.le_of_ble_eq_true rfl) (Nat.le_of_ble_eq_true rfl) dX3_init_23 (fun q1 H G => ?_)
  have G : Wo D (va_A ([(h0, .inr (3, [.int 0, .int 0, .int 0, .null, .null, .null, .null, .null, .null, .null, .null]))]) s.heap.size) s.heap ([(h0, .inr (3, [.int (0), .int (4), .int (6), .null, .null, .null, .null, .null, .null, .null, .null])), (q1, .inl (k 0, 8, .inl (fun _ => 0)))]) H locs := G
  refine W.cs (cells' := 1) (slots' := 8) rfl rfl ?_
  refine r_putF X hin inw_X3 tyX3 tyX3_ok nmX3 G 0 rfl rfl 3 (by decide) fl_X3_21 rfl rfl rfl rfl (Nat.le_of_ble_eq_true rfl) (ws' := [(h0, .inr (3, [.int (0), .int (4), .int (6), .ref q1, .null, .null, .null, .null, .null, .null, .null])), (q1, .inl (k 0, 8, .inl (fun _ => 0)))]) rfl dX3_init_25 (fun H locs G => ?_)
  refine lv_aload_n hx hb dX3_init_28 rfl (lv_at hl 0 rfl) ?_
  refine lv_bipush (v := 8) hx hb dX3_init_29 (by decide) ?_
  refine r_newa (atype := .int) X G hA ac_int rfl 0 rfl 8 rfl (by decide) (by decide) (by decide) (Nat.le_of_ble_eq_true rfl) (Nat.le_of_ble_eq_true rfl) dX3_init_31 (fun q2 H G => ?_)
  have G : Wo D (va_A ([(h0, .inr (3, [.int 0, .int 0, .int 0, .null, .null, .null, .null, .null, .null, .null, .null]))]) s.heap.size) s.heap ([(h0, .inr (3, [.int (0), .int (4), .int (6), .ref q1, .null, .null, .null, .null, .null, .null, .null])), (q1, .inl (k 0, 8, .inl (fun _ => 0))), (q2, .inl (k 0, 8, .inl (fun _ => 0)))]) H locs := G
  refine W.cs (cells' := 2) (slots' := 16) rfl rfl ?_
  refine r_putF X hin inw_X3 tyX3 tyX3_ok nmX3 G 0 rfl rfl 4 (by decide) fl_X3_25 rfl rfl rfl rfl (Nat.le_of_ble_eq_true rfl) (ws' := [(h0, .inr (3, [.int (0), .int (4), .int (6), .ref q1, .ref q2, .null, .null, .null, .null, .null, .null])), (q1, .inl (k 0, 8, .inl (fun _ => 0))), (q2, .inl (k 0, 8, .inl (fun _ => 0)))]) rfl dX3_init_33 (fun H locs G => ?_)
  refine lv_aload_n hx hb dX3_init_36 rfl (lv_at hl 0 rfl) ?_
  refine lv_bipush (v := 8) hx hb dX3_init_37 (by decide) ?_
  refine r_newa (atype := .int) X G hA ac_int rfl 0 rfl 8 rfl (by decide) (by decide) (by decide) (Nat.le_of_ble_eq_true rfl) (Nat.le_of_ble_eq_true rfl) dX3_init_39 (fun q3 H G => ?_)
  have G : Wo D (va_A ([(h0, .inr (3, [.int 0, .int 0, .int 0, .null, .null, .null, .null, .null, .null, .null, .null]))]) s.heap.size) s.heap ([(h0, .inr (3, [.int (0), .int (4), .int (6), .ref q1, .ref q2, .null, .null, .null, .null, .null, .null])), (q1, .inl (k 0, 8, .inl (fun _ => 0))), (q2, .inl (k 0, 8, .inl (fun _ => 0))), (q3, .inl (k 0, 8, .inl (fun _ => 0)))]) H locs := G
  refine W.cs (cells' := 3) (slots' := 24) rfl rfl ?_
  refine r_putF X hin inw_X3 tyX3 tyX3_ok nmX3 G 0 rfl rfl 5 (by decide) fl_X3_28 rfl rfl rfl rfl (Nat.le_of_ble_eq_true rfl) (ws' := [(h0, .inr (3, [.int (0), .int (4), .int (6), .ref q1, .ref q2, .ref q3, .null, .null, .null, .null, .null])), (q1, .inl (k 0, 8, .inl (fun _ => 0))), (q2, .inl (k 0, 8, .inl (fun _ => 0))), (q3, .inl (k 0, 8, .inl (fun _ => 0)))]) rfl dX3_init_41 (fun H locs G => ?_)
  refine lv_aload_n hx hb dX3_init_44 rfl (lv_at hl 0 rfl) ?_
  refine lv_bipush (v := 8) hx hb dX3_init_45 (by decide) ?_
  refine r_newa (atype := .int) X G hA ac_int rfl 0 rfl 8 rfl (by decide) (by decide) (by decide) (Nat.le_of_ble_eq_true rfl) (Nat.le_of_ble_eq_true rfl) dX3_init_47 (fun q4 H G => ?_)
  have G : Wo D (va_A ([(h0, .inr (3, [.int 0, .int 0, .int 0, .null, .null, .null, .null, .null, .null, .null, .null]))]) s.heap.size) s.heap ([(h0, .inr (3, [.int (0), .int (4), .int (6), .ref q1, .ref q2, .ref q3, .null, .null, .null, .null, .null])), (q1, .inl (k 0, 8, .inl (fun _ => 0))), (q2, .inl (k 0, 8, .inl (fun _ => 0))), (q3, .inl (k 0, 8, .inl (fun _ => 0))), (q4, .inl (k 0, 8, .inl (fun _ => 0)))]) H locs := G
  refine W.cs (cells' := 4) (slots' := 32) rfl rfl ?_
  refine r_putF X hin inw_X3 tyX3 tyX3_ok nmX3 G 0 rfl rfl 6 (by decide) fl_X3_31 rfl rfl rfl rfl (Nat.le_of_ble_eq_true rfl) (ws' := [(h0, .inr (3, [.int (0), .int (4), .int (6), .ref q1, .ref q2, .ref q3, .ref q4, .null, .null, .null, .null])), (q1, .inl (k 0, 8, .inl (fun _ => 0))), (q2, .inl (k 0, 8, .inl (fun _ => 0))), (q3, .inl (k 0, 8, .inl (fun _ => 0))), (q4, .inl (k 0, 8, .inl (fun _ => 0)))]) rfl dX3_init_49 (fun H locs G => ?_)
  refine lv_aload_n hx hb dX3_init_52 rfl (lv_at hl 0 rfl) ?_
  refine lv_bipush (v := 8) hx hb dX3_init_53 (by decide) ?_
  refine r_newa (atype := .int) X G hA ac_int rfl 0 rfl 8 rfl (by decide) (by decide) (by decide) (Nat.le_of_ble_eq_true rfl) (Nat.le_of_ble_eq_true rfl) dX3_init_55 (fun q5 H G => ?_)
  have G : Wo D (va_A ([(h0, .inr (3, [.int 0, .int 0, .int 0, .null, .null, .null, .null, .null, .null, .null, .null]))]) s.heap.size) s.heap ([(h0, .inr (3, [.int (0), .int (4), .int (6), .ref q1, .ref q2, .ref q3, .ref q4, .null, .null, .null, .null])), (q1, .inl (k 0, 8, .inl (fun _ => 0))), (q2, .inl (k 0, 8, .inl (fun _ => 0))), (q3, .inl (k 0, 8, .inl (fun _ => 0))), (q4, .inl (k 0, 8, .inl (fun _ => 0))), (q5, .inl (k 0, 8, .inl (fun _ => 0)))]) H locs := G
  refine W.cs (cells' := 5) (slots' := 40) rfl rfl ?_
  refine r_putF X hin inw_X3 tyX3 tyX3_ok nmX3 G 0 rfl rfl 7 (by decide) fl_X3_34 rfl rfl rfl rfl (Nat.le_of_ble_eq_true rfl) (ws' := [(h0, .inr (3, [.int (0), .int (4), .int (6), .ref q1, .ref q2, .ref q3, .ref q4, .ref q5, .null, .null, .null])), (q1, .inl (k 0, 8, .inl (fun _ => 0))), (q2, .inl (k 0, 8, .inl (fun _ => 0))), (q3, .inl (k 0, 8, .inl (fun _ => 0))), (q4, .inl (k 0, 8, .inl (fun _ => 0))), (q5, .inl (k 0, 8, .inl (fun _ => 0)))]) rfl dX3_init_57 (fun H locs G => ?_)
  refine lv_aload_n hx hb dX3_init_60 rfl (lv_at hl 0 rfl) ?_
  refine lv_bipush (v := 6) hx hb dX3_init_61 (by decide) ?_
  refine r_newa (atype := .int) X G hA ac_int rfl 0 rfl 6 rfl (by decide) (by decide) (by decide) (Nat.le_of_ble_eq_true rfl) (Nat.le_of_ble_eq_true rfl) dX3_init_63 (fun q6 H G => ?_)
  have G : Wo D (va_A ([(h0, .inr (3, [.int 0, .int 0, .int 0, .null, .null, .null, .null, .null, .null, .null, .null]))]) s.heap.size) s.heap ([(h0, .inr (3, [.int (0), .int (4), .int (6), .ref q1, .ref q2, .ref q3, .ref q4, .ref q5, .null, .null, .null])), (q1, .inl (k 0, 8, .inl (fun _ => 0))), (q2, .inl (k 0, 8, .inl (fun _ => 0))), (q3, .inl (k 0, 8, .inl (fun _ => 0))), (q4, .inl (k 0, 8, .inl (fun _ => 0))), (q5, .inl (k 0, 8, .inl (fun _ => 0))), (q6, .inl (k 0, 6, .inl (fun _ => 0)))]) H locs := G
  refine W.cs (cells' := 6) (slots' := 46) rfl rfl ?_
  refine r_putF X hin inw_X3 tyX3 tyX3_ok nmX3 G 0 rfl rfl 8 (by decide) fl_X3_37 rfl rfl rfl rfl (Nat.le_of_ble_eq_true rfl) (ws' := [(h0, .inr (3, [.int (0), .int (4), .int (6), .ref q1, .ref q2, .ref q3, .ref q4, .ref q5, .ref q6, .null, .null])), (q1, .inl (k 0, 8, .inl (fun _ => 0))), (q2, .inl (k 0, 8, .inl (fun _ => 0))), (q3, .inl (k 0, 8, .inl (fun _ => 0))), (q4, .inl (k 0, 8, .inl (fun _ => 0))), (q5, .inl (k 0, 8, .inl (fun _ => 0))), (q6, .inl (k 0, 6, .inl (fun _ => 0)))]) rfl dX3_init_65 (fun H locs G => ?_)
  refine lv_aload_n hx hb dX3_init_68 rfl (lv_at hl 0 rfl) ?_
  refine lv_iconst (v := 4) hx hb dX3_init_69 (by decide) ?_
  refine r_newa (atype := .int) X G hA ac_int rfl 0 rfl 4 rfl (by decide) (by decide) (by decide) (Nat.le_of_ble_eq_true rfl) (Nat.le_of_ble_eq_true rfl) dX3_init_70 (fun q7 H G => ?_)
  have G : Wo D (va_A ([(h0, .inr (3, [.int 0, .int 0, .int 0, .null, .null, .null, .null, .null, .null, .null, .null]))]) s.heap.size) s.heap ([(h0, .inr (3, [.int (0), .int (4), .int (6), .ref q1, .ref q2, .ref q3, .ref q4, .ref q5, .ref q6, .null, .null])), (q1, .inl (k 0, 8, .inl (fun _ => 0))), (q2, .inl (k 0, 8, .inl (fun _ => 0))), (q3, .inl (k 0, 8, .inl (fun _ => 0))), (q4, .inl (k 0, 8, .inl (fun _ => 0))), (q5, .inl (k 0, 8, .inl (fun _ => 0))), (q6, .inl (k 0, 6, .inl (fun _ => 0))), (q7, .inl (k 0, 4, .inl (fun _ => 0)))]) H locs := G
  refine W.cs (cells' := 7) (slots' := 50) rfl rfl ?_
  refine r_putF X hin inw_X3 tyX3 tyX3_ok nmX3 G 0 rfl rfl 9 (by decide) fl_X3_40 rfl rfl rfl rfl (Nat.le_of_ble_eq_true rfl) (ws' := [(h0, .inr (3, [.int (0), .int (4), .int (6), .ref q1, .ref q2, .ref q3, .ref q4, .ref q5, .ref q6, .ref q7, .null])), (q1, .inl (k 0, 8, .inl (fun _ => 0))), (q2, .inl (k 0, 8, .inl (fun _ => 0))), (q3, .inl (k 0, 8, .inl (fun _ => 0))), (q4, .inl (k 0, 8, .inl (fun _ => 0))), (q5, .inl (k 0, 8, .inl (fun _ => 0))), (q6, .inl (k 0, 6, .inl (fun _ => 0))), (q7, .inl (k 0, 4, .inl (fun _ => 0)))]) rfl dX3_init_72 (fun H locs G => ?_)
  refine lv_aload_n hx hb dX3_init_75 rfl (lv_at hl 0 rfl) ?_
  refine lv_bipush (v := 64) hx hb dX3_init_76 (by decide) ?_
  refine r_newa (atype := .int) X G hA ac_int rfl 0 rfl 64 rfl (by decide) (by decide) (by decide) (Nat.le_of_ble_eq_true rfl) (Nat.le_of_ble_eq_true rfl) dX3_init_78 (fun q8 H G => ?_)
  have G : Wo D (va_A ([(h0, .inr (3, [.int 0, .int 0, .int 0, .null, .null, .null, .null, .null, .null, .null, .null]))]) s.heap.size) s.heap ([(h0, .inr (3, [.int (0), .int (4), .int (6), .ref q1, .ref q2, .ref q3, .ref q4, .ref q5, .ref q6, .ref q7, .null])), (q1, .inl (k 0, 8, .inl (fun _ => 0))), (q2, .inl (k 0, 8, .inl (fun _ => 0))), (q3, .inl (k 0, 8, .inl (fun _ => 0))), (q4, .inl (k 0, 8, .inl (fun _ => 0))), (q5, .inl (k 0, 8, .inl (fun _ => 0))), (q6, .inl (k 0, 6, .inl (fun _ => 0))), (q7, .inl (k 0, 4, .inl (fun _ => 0))), (q8, .inl (k 0, 64, .inl (fun _ => 0)))]) H locs := G
  refine W.cs (cells' := 8) (slots' := 114) rfl rfl ?_
  refine r_putF X hin inw_X3 tyX3 tyX3_ok nmX3 G 0 rfl rfl 10 (by decide) fl_X3_43 rfl rfl rfl rfl (Nat.le_of_ble_eq_true rfl) (ws' := [(h0, .inr (3, [.int (0), .int (4), .int (6), .ref q1, .ref q2, .ref q3, .ref q4, .ref q5, .ref q6, .ref q7, .ref q8])), (q1, .inl (k 0, 8, .inl (fun _ => 0))), (q2, .inl (k 0, 8, .inl (fun _ => 0))), (q3, .inl (k 0, 8, .inl (fun _ => 0))), (q4, .inl (k 0, 8, .inl (fun _ => 0))), (q5, .inl (k 0, 8, .inl (fun _ => 0))), (q6, .inl (k 0, 6, .inl (fun _ => 0))), (q7, .inl (k 0, 4, .inl (fun _ => 0))), (q8, .inl (k 0, 64, .inl (fun _ => 0)))]) rfl dX3_init_80 (fun H locs G => ?_)
  refine lv_aload_n hx hb dX3_init_83 rfl (lv_at hl 0 rfl) ?_
  refine r_get X inw_X3 G 0 rfl rfl 8 (by decide) fl_X3_37 (v := .ref q6) rfl dX3_init_84 ?_
  refine lv_iconst (v := -1) hx hb dX3_init_87 (by decide) ?_
  refine p_N (st1 := []) (wr := [(h0, .inr (3, [.int (0), .int (4), .int (6), .ref q1, .ref q2, .ref q3, .ref q4, .ref q5, .ref q6, .ref q7, .ref q8])), (q1, .inl (k 0, 8, .inl (fun _ => 0))), (q2, .inl (k 0, 8, .inl (fun _ => 0))), (q3, .inl (k 0, 8, .inl (fun _ => 0))), (q4, .inl (k 0, 8, .inl (fun _ => 0))), (q5, .inl (k 0, 8, .inl (fun _ => 0))), (q7, .inl (k 0, 4, .inl (fun _ => 0))), (q8, .inl (k 0, 64, .inl (fun _ => 0)))]) (ws' := [(h0, .inr (3, [.int (0), .int (4), .int (6), .ref q1, .ref q2, .ref q3, .ref q4, .ref q5, .ref q6, .ref q7, .ref q8])), (q1, .inl (k 0, 8, .inl (fun _ => 0))), (q2, .inl (k 0, 8, .inl (fun _ => 0))), (q3, .inl (k 0, 8, .inl (fun _ => 0))), (q4, .inl (k 0, 8, .inl (fun _ => 0))), (q5, .inl (k 0, 8, .inl (fun _ => 0))), (q6, .inl (k 0, 6, .inl (fun j => if j < 6 then (-1) else 0))), (q7, .inl (k 0, 4, .inl (fun _ => 0))), (q8, .inl (k 0, 64, .inl (fun _ => 0)))]) (run_S (rest := []) X (ctJ7_fill_53178 hZ q6 (fill_eq (n := 6) (by decide) (fun _ => 0) (-1))) mk_J7_fill_53178 ml_X3_46 ⟨(Nat.le_of_ble_eq_true rfl), (Nat.le_of_ble_eq_true rfl)⟩ G [6] rfl rfl rfl hl.1 rfl (Nat.le_of_ble_eq_true rfl) dX3_init_88 ⟨(Nat.le_of_ble_eq_true rfl), (Nat.le_of_ble_eq_true rfl)⟩) rfl G [6] [0, 1, 2, 3, 4, 5, 7, 8] 9 rfl rfl rfl rfl rfl (by decide) (by decide) rfl (fun H locs G => ?_)
  exact e_nv X G ⟨(fun i => [q1, q2, q3, q4, q5, q6, q7, q8].getD i 0), rfl⟩ dX3_init_91
theorem mi_X4 : MI yX4_init cX4_init 1 0 := ⟨co_X4_init, in_X4, im_X4_init, rfl, by decide +kernel, by decide +kernel⟩
set_option maxHeartbeats 4000000 in
set_option maxRecDepth 100000 in
theorem cn_X4 {l : Launch} {D : va_G} {k : Nat → ClassId} {Z : ZT} (hZ : ZOK Z) (h0 : Nat) : CN l D k Z yX4_init cX4_init 1 none 1 12 1 150 [.ref h0] none ([(h0, .inr (4, [.null, .int 0, .int 0, .int 0]))]) (fun w1 => ∃ (a0 : Nat → Nat), w1 = kSk k h0 a0 Sk0) := by
  refine CN.start hZ (by decide) (Nat.le_of_ble_eq_true rfl) ?_
  intro p e s m below meth c ls X hin hl G
  have hx := X.1
  have hb := X.2.1
  have hA : ∀ q : Nat, s.heap.size ≤ q → va_A ([(h0, .inr (4, [.null, .int 0, .int 0, .int 0]))]) s.heap.size q := fun _ h => Or.inr h
  have hl : lv_has ls 1 [(0, .ref h0)] := hl
  refine lv_aload_n hx hb dX4_init_0 rfl (lv_at hl 0 rfl) ?_
  refine r_oi X ml_X4_3 oi_im oi_co hl.1 dX4_init_1 (Nat.le_of_ble_eq_true rfl) (Nat.le_of_ble_eq_true rfl) ?_
  refine lv_aload_n hx hb dX4_init_4 rfl (lv_at hl 0 rfl) ?_
  refine lv_sipush (v := 150) hx hb dX4_init_5 (by decide) ?_
  refine r_newa (atype := .int) X G hA ac_int rfl 0 rfl 150 rfl (by decide) (by decide) (by decide) (Nat.le_of_ble_eq_true rfl) (Nat.le_of_ble_eq_true rfl) dX4_init_8 (fun q1 H G => ?_)
  have G : Wo D (va_A ([(h0, .inr (4, [.null, .int 0, .int 0, .int 0]))]) s.heap.size) s.heap ([(h0, .inr (4, [.null, .int 0, .int 0, .int 0])), (q1, .inl (k 0, 150, .inl (fun _ => 0)))]) H [] := G
  refine W.cs (cells' := 1) (slots' := 150) rfl rfl ?_
  refine r_putF X hin inw_X4 tyX4 tyX4_ok nmX4 G 0 rfl rfl 0 (by decide) fl_X4_9 rfl rfl rfl rfl (Nat.le_of_ble_eq_true rfl) (ws' := [(h0, .inr (4, [.ref q1, .int 0, .int 0, .int 0])), (q1, .inl (k 0, 150, .inl (fun _ => 0)))]) rfl dX4_init_10 (fun H locs G => ?_)
  refine lv_aload_n hx hb dX4_init_13 rfl (lv_at hl 0 rfl) ?_
  refine lv_iconst (v := 0) hx hb dX4_init_14 (by decide) ?_
  refine r_put X inw_X4 tyX4 tyX4_ok nmX4 G 0 rfl rfl 1 (by decide) fl_X4_15 rfl rfl rfl (Nat.le_of_ble_eq_true rfl) (ws' := [(h0, .inr (4, [.ref q1, .int (0), .int 0, .int 0])), (q1, .inl (k 0, 150, .inl (fun _ => 0)))]) rfl dX4_init_15 (fun H locs G => ?_)
  refine lv_aload_n hx hb dX4_init_18 rfl (lv_at hl 0 rfl) ?_
  refine lv_iconst (v := 0) hx hb dX4_init_19 (by decide) ?_
  refine r_put X inw_X4 tyX4 tyX4_ok nmX4 G 0 rfl rfl 2 (by decide) fl_X4_19 rfl rfl rfl (Nat.le_of_ble_eq_true rfl) (ws' := [(h0, .inr (4, [.ref q1, .int (0), .int (0), .int 0])), (q1, .inl (k 0, 150, .inl (fun _ => 0)))]) rfl dX4_init_20 (fun H locs G => ?_)
  refine lv_aload_n hx hb dX4_init_23 rfl (lv_at hl 0 rfl) ?_
  refine lv_iconst (v := 0) hx hb dX4_init_24 (by decide) ?_
  refine r_put X inw_X4 tyX4 tyX4_ok nmX4 G 0 rfl rfl 3 (by decide) fl_X4_22 rfl rfl rfl (Nat.le_of_ble_eq_true rfl) (ws' := [(h0, .inr (4, [.ref q1, .int (0), .int (0), .int (0)])), (q1, .inl (k 0, 150, .inl (fun _ => 0)))]) rfl dX4_init_25 (fun H locs G => ?_)
  exact e_nv X G ⟨(fun i => [q1].getD i 0), rfl⟩ dX4_init_28
theorem mi_X5 : MI yX5_init cX5_init 1 0 := ⟨co_X5_init, in_X5, im_X5_init, rfl, by decide +kernel, by decide +kernel⟩
set_option maxHeartbeats 4000000 in
set_option maxRecDepth 100000 in
theorem cn_X5 {l : Launch} {D : va_G} {k : Nat → ClassId} {Z : ZT} (hZ : ZOK Z) (h0 : Nat) : CN l D k Z yX5_init cX5_init 1 none 1 12 1 800 [.ref h0] none ([(h0, .inr (5, [.null, .int 0]))]) (fun w1 => ∃ (a0 : Nat → Nat), w1 = kTp k h0 a0 Tp0) := by
  refine CN.start hZ (by decide) (Nat.le_of_ble_eq_true rfl) ?_
  intro p e s m below meth c ls X hin hl G
  have hx := X.1
  have hb := X.2.1
  have hA : ∀ q : Nat, s.heap.size ≤ q → va_A ([(h0, .inr (5, [.null, .int 0]))]) s.heap.size q := fun _ h => Or.inr h
  have hl : lv_has ls 1 [(0, .ref h0)] := hl
  refine lv_aload_n hx hb dX5_init_0 rfl (lv_at hl 0 rfl) ?_
  refine r_oi X ml_X5_3 oi_im oi_co hl.1 dX5_init_1 (Nat.le_of_ble_eq_true rfl) (Nat.le_of_ble_eq_true rfl) ?_
  refine lv_aload_n hx hb dX5_init_4 rfl (lv_at hl 0 rfl) ?_
  refine lv_sipush (v := 800) hx hb dX5_init_5 (by decide) ?_
  refine r_newa (atype := .byte) X G hA ac_byte rfl 1 rfl 800 rfl (by decide) (by decide) (by decide) (Nat.le_of_ble_eq_true rfl) (Nat.le_of_ble_eq_true rfl) dX5_init_8 (fun q1 H G => ?_)
  have G : Wo D (va_A ([(h0, .inr (5, [.null, .int 0]))]) s.heap.size) s.heap ([(h0, .inr (5, [.null, .int 0])), (q1, .inl (k 1, 800, .inl (fun _ => 0)))]) H [] := G
  refine W.cs (cells' := 1) (slots' := 800) rfl rfl ?_
  refine r_putF X hin inw_X5 tyX5 tyX5_ok nmX5 G 0 rfl rfl 0 (by decide) fl_X5_9 rfl rfl rfl rfl (Nat.le_of_ble_eq_true rfl) (ws' := [(h0, .inr (5, [.ref q1, .int 0])), (q1, .inl (k 1, 800, .inl (fun _ => 0)))]) rfl dX5_init_10 (fun H locs G => ?_)
  refine lv_aload_n hx hb dX5_init_13 rfl (lv_at hl 0 rfl) ?_
  refine lv_iconst (v := 0) hx hb dX5_init_14 (by decide) ?_
  refine r_put X inw_X5 tyX5 tyX5_ok nmX5 G 0 rfl rfl 1 (by decide) fl_X5_15 rfl rfl rfl (Nat.le_of_ble_eq_true rfl) (ws' := [(h0, .inr (5, [.ref q1, .int (0)])), (q1, .inl (k 1, 800, .inl (fun _ => 0)))]) rfl dX5_init_15 (fun H locs G => ?_)
  exact e_nv X G ⟨(fun i => [q1].getD i 0), rfl⟩ dX5_init_18
theorem mi_X1 : MI yX1_init cX1_init 1 0 := ⟨co_X1_init, in_X1, im_X1_init, rfl, by decide +kernel, by decide +kernel⟩
set_option maxHeartbeats 4000000 in
set_option maxRecDepth 100000 in
theorem cn_X1 {l : Launch} {D : va_G} {k : Nat → ClassId} {Z : ZT} (hZ : ZOK Z) (h0 : Nat) : CN l D k Z yX1_init cX1_init 1 none 1 23 5 300 [.ref h0] none ([(h0, .inr (1, [.int 0, .int 0, .int 0, .null, .null, .null, .null, .null]))]) (fun w1 => ∃ (a0 : Nat → Nat), w1 = kPl k h0 a0 Pl0) := by
  refine CN.start hZ (by decide) (Nat.le_of_ble_eq_true rfl) ?_
  intro p e s m below meth c ls X hin hl G
  have hx := X.1
  have hb := X.2.1
  have hA : ∀ q : Nat, s.heap.size ≤ q → va_A ([(h0, .inr (1, [.int 0, .int 0, .int 0, .null, .null, .null, .null, .null]))]) s.heap.size q := fun _ h => Or.inr h
  have hl : lv_has ls 1 [(0, .ref h0)] := hl
  refine lv_aload_n hx hb dX1_init_0 rfl (lv_at hl 0 rfl) ?_
  refine r_oi X ml_X1_3 oi_im oi_co hl.1 dX1_init_1 (Nat.le_of_ble_eq_true rfl) (Nat.le_of_ble_eq_true rfl) ?_
  refine lv_aload_n hx hb dX1_init_4 rfl (lv_at hl 0 rfl) ?_
  refine lv_iconst (v := 0) hx hb dX1_init_5 (by decide) ?_
  refine r_put X inw_X1 tyX1 tyX1_ok nmX1 G 0 rfl rfl 0 (by decide) fl_X1_9 rfl rfl rfl (Nat.le_of_ble_eq_true rfl) (ws' := [(h0, .inr (1, [.int (0), .int 0, .int 0, .null, .null, .null, .null, .null]))]) rfl dX1_init_6 (fun H locs G => ?_)
  refine lv_aload_n hx hb dX1_init_9 rfl (lv_at hl 0 rfl) ?_
  refine lv_iconst (v := 4) hx hb dX1_init_10 (by decide) ?_
  refine r_put X inw_X1 tyX1 tyX1_ok nmX1 G 0 rfl rfl 1 (by decide) fl_X1_15 rfl rfl rfl (Nat.le_of_ble_eq_true rfl) (ws' := [(h0, .inr (1, [.int (0), .int (4), .int 0, .null, .null, .null, .null, .null]))]) rfl dX1_init_11 (fun H locs G => ?_)
  refine lv_aload_n hx hb dX1_init_14 rfl (lv_at hl 0 rfl) ?_
  refine lv_bipush (v := 6) hx hb dX1_init_15 (by decide) ?_
  refine r_put X inw_X1 tyX1 tyX1_ok nmX1 G 0 rfl rfl 2 (by decide) fl_X1_18 rfl rfl rfl (Nat.le_of_ble_eq_true rfl) (ws' := [(h0, .inr (1, [.int (0), .int (4), .int (6), .null, .null, .null, .null, .null]))]) rfl dX1_init_17 (fun H locs G => ?_)
  refine lv_aload_n hx hb dX1_init_20 rfl (lv_at hl 0 rfl) ?_
  refine lv_bipush (v := 8) hx hb dX1_init_21 (by decide) ?_
  refine r_newa (atype := .int) X G hA ac_int rfl 0 rfl 8 rfl (by decide) (by decide) (by decide) (Nat.le_of_ble_eq_true rfl) (Nat.le_of_ble_eq_true rfl) dX1_init_23 (fun q1 H G => ?_)
  have G : Wo D (va_A ([(h0, .inr (1, [.int 0, .int 0, .int 0, .null, .null, .null, .null, .null]))]) s.heap.size) s.heap ([(h0, .inr (1, [.int (0), .int (4), .int (6), .null, .null, .null, .null, .null])), (q1, .inl (k 0, 8, .inl (fun _ => 0)))]) H locs := G
  refine W.cs (cells' := 1) (slots' := 8) rfl rfl ?_
  refine r_putF X hin inw_X1 tyX1 tyX1_ok nmX1 G 0 rfl rfl 3 (by decide) fl_X1_21 rfl rfl rfl rfl (Nat.le_of_ble_eq_true rfl) (ws' := [(h0, .inr (1, [.int (0), .int (4), .int (6), .ref q1, .null, .null, .null, .null])), (q1, .inl (k 0, 8, .inl (fun _ => 0)))]) rfl dX1_init_25 (fun H locs G => ?_)
  refine lv_aload_n hx hb dX1_init_28 rfl (lv_at hl 0 rfl) ?_
  refine lv_bipush (v := 96) hx hb dX1_init_29 (by decide) ?_
  refine r_newa (atype := .int) X G hA ac_int rfl 0 rfl 96 rfl (by decide) (by decide) (by decide) (Nat.le_of_ble_eq_true rfl) (Nat.le_of_ble_eq_true rfl) dX1_init_31 (fun q2 H G => ?_)
  have G : Wo D (va_A ([(h0, .inr (1, [.int 0, .int 0, .int 0, .null, .null, .null, .null, .null]))]) s.heap.size) s.heap ([(h0, .inr (1, [.int (0), .int (4), .int (6), .ref q1, .null, .null, .null, .null])), (q1, .inl (k 0, 8, .inl (fun _ => 0))), (q2, .inl (k 0, 96, .inl (fun _ => 0)))]) H locs := G
  refine W.cs (cells' := 2) (slots' := 104) rfl rfl ?_
  refine r_putF X hin inw_X1 tyX1 tyX1_ok nmX1 G 0 rfl rfl 4 (by decide) fl_X1_25 rfl rfl rfl rfl (Nat.le_of_ble_eq_true rfl) (ws' := [(h0, .inr (1, [.int (0), .int (4), .int (6), .ref q1, .ref q2, .null, .null, .null])), (q1, .inl (k 0, 8, .inl (fun _ => 0))), (q2, .inl (k 0, 96, .inl (fun _ => 0)))]) rfl dX1_init_33 (fun H locs G => ?_)
  refine lv_aload_n hx hb dX1_init_36 rfl (lv_at hl 0 rfl) ?_
  refine lv_bipush (v := 96) hx hb dX1_init_37 (by decide) ?_
  refine r_newa (atype := .int) X G hA ac_int rfl 0 rfl 96 rfl (by decide) (by decide) (by decide) (Nat.le_of_ble_eq_true rfl) (Nat.le_of_ble_eq_true rfl) dX1_init_39 (fun q3 H G => ?_)
  have G : Wo D (va_A ([(h0, .inr (1, [.int 0, .int 0, .int 0, .null, .null, .null, .null, .null]))]) s.heap.size) s.heap ([(h0, .inr (1, [.int (0), .int (4), .int (6), .ref q1, .ref q2, .null, .null, .null])), (q1, .inl (k 0, 8, .inl (fun _ => 0))), (q2, .inl (k 0, 96, .inl (fun _ => 0))), (q3, .inl (k 0, 96, .inl (fun _ => 0)))]) H locs := G
  refine W.cs (cells' := 3) (slots' := 200) rfl rfl ?_
  refine r_putF X hin inw_X1 tyX1 tyX1_ok nmX1 G 0 rfl rfl 5 (by decide) fl_X1_28 rfl rfl rfl rfl (Nat.le_of_ble_eq_true rfl) (ws' := [(h0, .inr (1, [.int (0), .int (4), .int (6), .ref q1, .ref q2, .ref q3, .null, .null])), (q1, .inl (k 0, 8, .inl (fun _ => 0))), (q2, .inl (k 0, 96, .inl (fun _ => 0))), (q3, .inl (k 0, 96, .inl (fun _ => 0)))]) rfl dX1_init_41 (fun H locs G => ?_)
  refine lv_aload_n hx hb dX1_init_44 rfl (lv_at hl 0 rfl) ?_
  refine lv_bipush (v := 96) hx hb dX1_init_45 (by decide) ?_
  refine r_newa (atype := .int) X G hA ac_int rfl 0 rfl 96 rfl (by decide) (by decide) (by decide) (Nat.le_of_ble_eq_true rfl) (Nat.le_of_ble_eq_true rfl) dX1_init_47 (fun q4 H G => ?_)
  have G : Wo D (va_A ([(h0, .inr (1, [.int 0, .int 0, .int 0, .null, .null, .null, .null, .null]))]) s.heap.size) s.heap ([(h0, .inr (1, [.int (0), .int (4), .int (6), .ref q1, .ref q2, .ref q3, .null, .null])), (q1, .inl (k 0, 8, .inl (fun _ => 0))), (q2, .inl (k 0, 96, .inl (fun _ => 0))), (q3, .inl (k 0, 96, .inl (fun _ => 0))), (q4, .inl (k 0, 96, .inl (fun _ => 0)))]) H locs := G
  refine W.cs (cells' := 4) (slots' := 296) rfl rfl ?_
  refine r_putF X hin inw_X1 tyX1 tyX1_ok nmX1 G 0 rfl rfl 6 (by decide) fl_X1_31 rfl rfl rfl rfl (Nat.le_of_ble_eq_true rfl) (ws' := [(h0, .inr (1, [.int (0), .int (4), .int (6), .ref q1, .ref q2, .ref q3, .ref q4, .null])), (q1, .inl (k 0, 8, .inl (fun _ => 0))), (q2, .inl (k 0, 96, .inl (fun _ => 0))), (q3, .inl (k 0, 96, .inl (fun _ => 0))), (q4, .inl (k 0, 96, .inl (fun _ => 0)))]) rfl dX1_init_49 (fun H locs G => ?_)
  refine lv_aload_n hx hb dX1_init_52 rfl (lv_at hl 0 rfl) ?_
  refine lv_iconst (v := 4) hx hb dX1_init_53 (by decide) ?_
  refine r_newa (atype := .int) X G hA ac_int rfl 0 rfl 4 rfl (by decide) (by decide) (by decide) (Nat.le_of_ble_eq_true rfl) (Nat.le_of_ble_eq_true rfl) dX1_init_54 (fun q5 H G => ?_)
  have G : Wo D (va_A ([(h0, .inr (1, [.int 0, .int 0, .int 0, .null, .null, .null, .null, .null]))]) s.heap.size) s.heap ([(h0, .inr (1, [.int (0), .int (4), .int (6), .ref q1, .ref q2, .ref q3, .ref q4, .null])), (q1, .inl (k 0, 8, .inl (fun _ => 0))), (q2, .inl (k 0, 96, .inl (fun _ => 0))), (q3, .inl (k 0, 96, .inl (fun _ => 0))), (q4, .inl (k 0, 96, .inl (fun _ => 0))), (q5, .inl (k 0, 4, .inl (fun _ => 0)))]) H locs := G
  refine W.cs (cells' := 5) (slots' := 300) rfl rfl ?_
  refine r_putF X hin inw_X1 tyX1 tyX1_ok nmX1 G 0 rfl rfl 7 (by decide) fl_X1_34 rfl rfl rfl rfl (Nat.le_of_ble_eq_true rfl) (ws' := [(h0, .inr (1, [.int (0), .int (4), .int (6), .ref q1, .ref q2, .ref q3, .ref q4, .ref q5])), (q1, .inl (k 0, 8, .inl (fun _ => 0))), (q2, .inl (k 0, 96, .inl (fun _ => 0))), (q3, .inl (k 0, 96, .inl (fun _ => 0))), (q4, .inl (k 0, 96, .inl (fun _ => 0))), (q5, .inl (k 0, 4, .inl (fun _ => 0)))]) rfl dX1_init_56 (fun H locs G => ?_)
  refine lv_aload_n hx hb dX1_init_59 rfl (lv_at hl 0 rfl) ?_
  refine r_get X inw_X1 G 0 rfl rfl 7 (by decide) fl_X1_34 (v := .ref q5) rfl dX1_init_60 ?_
  refine lv_iconst (v := 1) hx hb dX1_init_63 (by decide) ?_
  refine p_N (st1 := []) (wr := [(h0, .inr (1, [.int (0), .int (4), .int (6), .ref q1, .ref q2, .ref q3, .ref q4, .ref q5])), (q1, .inl (k 0, 8, .inl (fun _ => 0))), (q2, .inl (k 0, 96, .inl (fun _ => 0))), (q3, .inl (k 0, 96, .inl (fun _ => 0))), (q4, .inl (k 0, 96, .inl (fun _ => 0)))]) (ws' := [(h0, .inr (1, [.int (0), .int (4), .int (6), .ref q1, .ref q2, .ref q3, .ref q4, .ref q5])), (q1, .inl (k 0, 8, .inl (fun _ => 0))), (q2, .inl (k 0, 96, .inl (fun _ => 0))), (q3, .inl (k 0, 96, .inl (fun _ => 0))), (q4, .inl (k 0, 96, .inl (fun _ => 0))), (q5, .inl (k 0, 4, .inl (fun j => if j < 4 then (1) else 0)))]) (run_S (rest := []) X (ctJ7_fill_53178 hZ q5 (fill_eq (n := 4) (by decide) (fun _ => 0) (1))) mk_J7_fill_53178 ml_X1_37 ⟨(Nat.le_of_ble_eq_true rfl), (Nat.le_of_ble_eq_true rfl)⟩ G [5] rfl rfl rfl hl.1 rfl (Nat.le_of_ble_eq_true rfl) dX1_init_64 ⟨(Nat.le_of_ble_eq_true rfl), (Nat.le_of_ble_eq_true rfl)⟩) rfl G [5] [0, 1, 2, 3, 4] 6 rfl rfl rfl rfl rfl (by decide) (by decide) rfl (fun H locs G => ?_)
  exact e_nv X G ⟨(fun i => [q1, q2, q3, q4, q5].getD i 0), rfl⟩ dX1_init_67
theorem mi_X7 : MI yX7_init cX7_init 1 0 := ⟨co_X7_init, in_X7, im_X7_init, rfl, by decide +kernel, by decide +kernel⟩
set_option maxHeartbeats 4000000 in
set_option maxRecDepth 100000 in
theorem cn_X7 {l : Launch} {D : va_G} {k : Nat → ClassId} {Z : ZT} (hZ : ZOK Z) (h0 : Nat) : CN l D k Z yX7_init cX7_init 1 none 1 12 3 24 [.ref h0] none ([(h0, .inr (7, [.int 0, .int 0, .int 0, .int 0, .int 0, .int 0, .int 0, .int 0, .null, .null, .null, .int 0, .int 0]))]) (fun w1 => ∃ (a0 : Nat → Nat), w1 = kVw k h0 a0 Vw0) := by
  refine CN.start hZ (by decide) (Nat.le_of_ble_eq_true rfl) ?_
  intro p e s m below meth c ls X hin hl G
  have hx := X.1
  have hb := X.2.1
  have hA : ∀ q : Nat, s.heap.size ≤ q → va_A ([(h0, .inr (7, [.int 0, .int 0, .int 0, .int 0, .int 0, .int 0, .int 0, .int 0, .null, .null, .null, .int 0, .int 0]))]) s.heap.size q := fun _ h => Or.inr h
  have hl : lv_has ls 1 [(0, .ref h0)] := hl
  refine lv_aload_n hx hb dX7_init_0 rfl (lv_at hl 0 rfl) ?_
  refine r_oi X ml_X7_3 oi_im oi_co hl.1 dX7_init_1 (Nat.le_of_ble_eq_true rfl) (Nat.le_of_ble_eq_true rfl) ?_
  refine lv_aload_n hx hb dX7_init_4 rfl (lv_at hl 0 rfl) ?_
  refine lv_iconst (v := 0) hx hb dX7_init_5 (by decide) ?_
  refine r_put X inw_X7 tyX7 tyX7_ok nmX7 G 0 rfl rfl 0 (by decide) fl_X7_9 rfl rfl rfl (Nat.le_of_ble_eq_true rfl) (ws' := [(h0, .inr (7, [.int (0), .int 0, .int 0, .int 0, .int 0, .int 0, .int 0, .int 0, .null, .null, .null, .int 0, .int 0]))]) rfl dX7_init_6 (fun H locs G => ?_)
  refine lv_aload_n hx hb dX7_init_9 rfl (lv_at hl 0 rfl) ?_
  refine lv_iconst (v := 0) hx hb dX7_init_10 (by decide) ?_
  refine r_put X inw_X7 tyX7 tyX7_ok nmX7 G 0 rfl rfl 1 (by decide) fl_X7_15 rfl rfl rfl (Nat.le_of_ble_eq_true rfl) (ws' := [(h0, .inr (7, [.int (0), .int (0), .int 0, .int 0, .int 0, .int 0, .int 0, .int 0, .null, .null, .null, .int 0, .int 0]))]) rfl dX7_init_11 (fun H locs G => ?_)
  refine lv_aload_n hx hb dX7_init_14 rfl (lv_at hl 0 rfl) ?_
  refine lv_iconst (v := 0) hx hb dX7_init_15 (by decide) ?_
  refine r_put X inw_X7 tyX7 tyX7_ok nmX7 G 0 rfl rfl 2 (by decide) fl_X7_18 rfl rfl rfl (Nat.le_of_ble_eq_true rfl) (ws' := [(h0, .inr (7, [.int (0), .int (0), .int (0), .int 0, .int 0, .int 0, .int 0, .int 0, .null, .null, .null, .int 0, .int 0]))]) rfl dX7_init_16 (fun H locs G => ?_)
  refine lv_aload_n hx hb dX7_init_19 rfl (lv_at hl 0 rfl) ?_
  refine lv_iconst (v := 0) hx hb dX7_init_20 (by decide) ?_
  refine r_put X inw_X7 tyX7 tyX7_ok nmX7 G 0 rfl rfl 3 (by decide) fl_X7_21 rfl rfl rfl (Nat.le_of_ble_eq_true rfl) (ws' := [(h0, .inr (7, [.int (0), .int (0), .int (0), .int (0), .int 0, .int 0, .int 0, .int 0, .null, .null, .null, .int 0, .int 0]))]) rfl dX7_init_21 (fun H locs G => ?_)
  refine lv_aload_n hx hb dX7_init_24 rfl (lv_at hl 0 rfl) ?_
  refine lv_iconst (v := 0) hx hb dX7_init_25 (by decide) ?_
  refine r_put X inw_X7 tyX7 tyX7_ok nmX7 G 0 rfl rfl 4 (by decide) fl_X7_24 rfl rfl rfl (Nat.le_of_ble_eq_true rfl) (ws' := [(h0, .inr (7, [.int (0), .int (0), .int (0), .int (0), .int (0), .int 0, .int 0, .int 0, .null, .null, .null, .int 0, .int 0]))]) rfl dX7_init_26 (fun H locs G => ?_)
  refine lv_aload_n hx hb dX7_init_29 rfl (lv_at hl 0 rfl) ?_
  refine lv_iconst (v := 0) hx hb dX7_init_30 (by decide) ?_
  refine r_put X inw_X7 tyX7 tyX7_ok nmX7 G 0 rfl rfl 5 (by decide) fl_X7_27 rfl rfl rfl (Nat.le_of_ble_eq_true rfl) (ws' := [(h0, .inr (7, [.int (0), .int (0), .int (0), .int (0), .int (0), .int (0), .int 0, .int 0, .null, .null, .null, .int 0, .int 0]))]) rfl dX7_init_31 (fun H locs G => ?_)
  refine lv_aload_n hx hb dX7_init_34 rfl (lv_at hl 0 rfl) ?_
  refine lv_iconst (v := 0) hx hb dX7_init_35 (by decide) ?_
  refine r_put X inw_X7 tyX7 tyX7_ok nmX7 G 0 rfl rfl 6 (by decide) fl_X7_30 rfl rfl rfl (Nat.le_of_ble_eq_true rfl) (ws' := [(h0, .inr (7, [.int (0), .int (0), .int (0), .int (0), .int (0), .int (0), .int (0), .int 0, .null, .null, .null, .int 0, .int 0]))]) rfl dX7_init_36 (fun H locs G => ?_)
  refine lv_aload_n hx hb dX7_init_39 rfl (lv_at hl 0 rfl) ?_
  refine lv_iconst (v := 0) hx hb dX7_init_40 (by decide) ?_
  refine r_put X inw_X7 tyX7 tyX7_ok nmX7 G 0 rfl rfl 7 (by decide) fl_X7_33 rfl rfl rfl (Nat.le_of_ble_eq_true rfl) (ws' := [(h0, .inr (7, [.int (0), .int (0), .int (0), .int (0), .int (0), .int (0), .int (0), .int (0), .null, .null, .null, .int 0, .int 0]))]) rfl dX7_init_41 (fun H locs G => ?_)
  refine lv_aload_n hx hb dX7_init_44 rfl (lv_at hl 0 rfl) ?_
  refine lv_bipush (v := 8) hx hb dX7_init_45 (by decide) ?_
  refine r_newa (atype := .int) X G hA ac_int rfl 0 rfl 8 rfl (by decide) (by decide) (by decide) (Nat.le_of_ble_eq_true rfl) (Nat.le_of_ble_eq_true rfl) dX7_init_47 (fun q1 H G => ?_)
  have G : Wo D (va_A ([(h0, .inr (7, [.int 0, .int 0, .int 0, .int 0, .int 0, .int 0, .int 0, .int 0, .null, .null, .null, .int 0, .int 0]))]) s.heap.size) s.heap ([(h0, .inr (7, [.int (0), .int (0), .int (0), .int (0), .int (0), .int (0), .int (0), .int (0), .null, .null, .null, .int 0, .int 0])), (q1, .inl (k 0, 8, .inl (fun _ => 0)))]) H locs := G
  refine W.cs (cells' := 1) (slots' := 8) rfl rfl ?_
  refine r_putF X hin inw_X7 tyX7 tyX7_ok nmX7 G 0 rfl rfl 8 (by decide) fl_X7_36 rfl rfl rfl rfl (Nat.le_of_ble_eq_true rfl) (ws' := [(h0, .inr (7, [.int (0), .int (0), .int (0), .int (0), .int (0), .int (0), .int (0), .int (0), .ref q1, .null, .null, .int 0, .int 0])), (q1, .inl (k 0, 8, .inl (fun _ => 0)))]) rfl dX7_init_49 (fun H locs G => ?_)
  refine lv_aload_n hx hb dX7_init_52 rfl (lv_at hl 0 rfl) ?_
  refine lv_bipush (v := 8) hx hb dX7_init_53 (by decide) ?_
  refine r_newa (atype := .int) X G hA ac_int rfl 0 rfl 8 rfl (by decide) (by decide) (by decide) (Nat.le_of_ble_eq_true rfl) (Nat.le_of_ble_eq_true rfl) dX7_init_55 (fun q2 H G => ?_)
  have G : Wo D (va_A ([(h0, .inr (7, [.int 0, .int 0, .int 0, .int 0, .int 0, .int 0, .int 0, .int 0, .null, .null, .null, .int 0, .int 0]))]) s.heap.size) s.heap ([(h0, .inr (7, [.int (0), .int (0), .int (0), .int (0), .int (0), .int (0), .int (0), .int (0), .ref q1, .null, .null, .int 0, .int 0])), (q1, .inl (k 0, 8, .inl (fun _ => 0))), (q2, .inl (k 0, 8, .inl (fun _ => 0)))]) H locs := G
  refine W.cs (cells' := 2) (slots' := 16) rfl rfl ?_
  refine r_putF X hin inw_X7 tyX7 tyX7_ok nmX7 G 0 rfl rfl 9 (by decide) fl_X7_40 rfl rfl rfl rfl (Nat.le_of_ble_eq_true rfl) (ws' := [(h0, .inr (7, [.int (0), .int (0), .int (0), .int (0), .int (0), .int (0), .int (0), .int (0), .ref q1, .ref q2, .null, .int 0, .int 0])), (q1, .inl (k 0, 8, .inl (fun _ => 0))), (q2, .inl (k 0, 8, .inl (fun _ => 0)))]) rfl dX7_init_57 (fun H locs G => ?_)
  refine lv_aload_n hx hb dX7_init_60 rfl (lv_at hl 0 rfl) ?_
  refine lv_bipush (v := 8) hx hb dX7_init_61 (by decide) ?_
  refine r_newa (atype := .int) X G hA ac_int rfl 0 rfl 8 rfl (by decide) (by decide) (by decide) (Nat.le_of_ble_eq_true rfl) (Nat.le_of_ble_eq_true rfl) dX7_init_63 (fun q3 H G => ?_)
  have G : Wo D (va_A ([(h0, .inr (7, [.int 0, .int 0, .int 0, .int 0, .int 0, .int 0, .int 0, .int 0, .null, .null, .null, .int 0, .int 0]))]) s.heap.size) s.heap ([(h0, .inr (7, [.int (0), .int (0), .int (0), .int (0), .int (0), .int (0), .int (0), .int (0), .ref q1, .ref q2, .null, .int 0, .int 0])), (q1, .inl (k 0, 8, .inl (fun _ => 0))), (q2, .inl (k 0, 8, .inl (fun _ => 0))), (q3, .inl (k 0, 8, .inl (fun _ => 0)))]) H locs := G
  refine W.cs (cells' := 3) (slots' := 24) rfl rfl ?_
  refine r_putF X hin inw_X7 tyX7 tyX7_ok nmX7 G 0 rfl rfl 10 (by decide) fl_X7_43 rfl rfl rfl rfl (Nat.le_of_ble_eq_true rfl) (ws' := [(h0, .inr (7, [.int (0), .int (0), .int (0), .int (0), .int (0), .int (0), .int (0), .int (0), .ref q1, .ref q2, .ref q3, .int 0, .int 0])), (q1, .inl (k 0, 8, .inl (fun _ => 0))), (q2, .inl (k 0, 8, .inl (fun _ => 0))), (q3, .inl (k 0, 8, .inl (fun _ => 0)))]) rfl dX7_init_65 (fun H locs G => ?_)
  refine lv_aload_n hx hb dX7_init_68 rfl (lv_at hl 0 rfl) ?_
  refine lv_iconst (v := 0) hx hb dX7_init_69 (by decide) ?_
  refine r_put X inw_X7 tyX7 tyX7_ok nmX7 G 0 rfl rfl 11 (by decide) fl_X7_46 rfl rfl rfl (Nat.le_of_ble_eq_true rfl) (ws' := [(h0, .inr (7, [.int (0), .int (0), .int (0), .int (0), .int (0), .int (0), .int (0), .int (0), .ref q1, .ref q2, .ref q3, .int (0), .int 0])), (q1, .inl (k 0, 8, .inl (fun _ => 0))), (q2, .inl (k 0, 8, .inl (fun _ => 0))), (q3, .inl (k 0, 8, .inl (fun _ => 0)))]) rfl dX7_init_70 (fun H locs G => ?_)
  refine lv_aload_n hx hb dX7_init_73 rfl (lv_at hl 0 rfl) ?_
  refine lv_iconst (v := 0) hx hb dX7_init_74 (by decide) ?_
  refine r_put X inw_X7 tyX7 tyX7_ok nmX7 G 0 rfl rfl 12 (by decide) fl_X7_49 rfl rfl rfl (Nat.le_of_ble_eq_true rfl) (ws' := [(h0, .inr (7, [.int (0), .int (0), .int (0), .int (0), .int (0), .int (0), .int (0), .int (0), .ref q1, .ref q2, .ref q3, .int (0), .int (0)])), (q1, .inl (k 0, 8, .inl (fun _ => 0))), (q2, .inl (k 0, 8, .inl (fun _ => 0))), (q3, .inl (k 0, 8, .inl (fun _ => 0)))]) rfl dX7_init_75 (fun H locs G => ?_)
  exact e_nv X G ⟨(fun i => [q1, q2, q3].getD i 0), rfl⟩ dX7_init_78
