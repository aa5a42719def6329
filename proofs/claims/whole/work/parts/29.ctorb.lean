theorem mi_X8 : MI yX8_init cX8_init 1 0 := ⟨co_X8_init, in_X8, im_X8_init, rfl, by decide +kernel, by decide +kernel⟩
set_option maxHeartbeats 4000000 in
set_option maxRecDepth 100000 in
theorem cn_X8 {l : Launch} {D : va_G} {k : Nat → ClassId} {Z : ZT} (hZ : ZOK Z) (h0 : Nat) : CN l D k Z yX8_init cX8_init 1 none 2 43 19 1389 [.ref h0] none ([(h0, .inr (8, [.null, .null, .null, .null, .int 0, .int 0]))]) (fun w1 => ∃ (a0 : Nat → Nat) (a1 : Nat → Nat) (a2 : Nat → Nat) (a3 : Nat → Nat) (a4 : Nat → Nat), w1 = kWd k h0 a0 Wd0 ++ (kPl k (a0 0) a1 Pl0 ++ (kSc k (a0 1) a2 Sc0 ++ (kSk k (a0 2) a3 Sk0 ++ (kTp k (a0 3) a4 Tp0))))) := by
  refine CN.start hZ (by decide) (Nat.le_of_ble_eq_true rfl) ?_
  intro p e s m below meth c ls X hin hl G
  have hx := X.1
  have hb := X.2.1
  have hA : ∀ q : Nat, s.heap.size ≤ q → va_A ([(h0, .inr (8, [.null, .null, .null, .null, .int 0, .int 0]))]) s.heap.size q := fun _ h => Or.inr h
  have hl : lv_has ls 1 [(0, .ref h0)] := hl
  refine lv_aload_n hx hb dX8_init_0 rfl (lv_at hl 0 rfl) ?_
  refine r_oi X ml_X8_3 oi_im oi_co hl.1 dX8_init_1 (Nat.le_of_ble_eq_true rfl) (Nat.le_of_ble_eq_true rfl) ?_
  refine lv_aload_n hx hb dX8_init_4 rfl (lv_at hl 0 rfl) ?_
  refine r_new (ci := 1) (fs := [.int 0, .int 0, .int 0, .null, .null, .null, .null, .null]) X G hA inw_X1 tyX1 tyX1_ok cl_X8_9 is_X1 in_X1 rfl (fun j hj => by match j, hj with | 0, _ => rfl | 1, _ => rfl | 2, _ => rfl | 3, _ => rfl | 4, _ => rfl | 5, _ => rfl | 6, _ => rfl | 7, _ => rfl | z + 8, h => exact absurd h (by omega)) (Nat.le_of_ble_eq_true rfl) (Nat.le_of_ble_eq_true rfl) dX8_init_5 (fun q1 H G => ?_)
  have G : Wo D (va_A ([(h0, .inr (8, [.null, .null, .null, .null, .int 0, .int 0]))]) s.heap.size) s.heap ([(h0, .inr (8, [.null, .null, .null, .null, .int 0, .int 0])), (q1, .inr (1, [.int 0, .int 0, .int 0, .null, .null, .null, .null, .null]))]) H [] := G
  refine W.cs (cells' := 1) (slots' := 8) rfl rfl ?_
  refine lv_dup hx hb dX8_init_8 rfl ?_
  refine p_C (st1 := [.ref q1, .ref h0]) (wr := [(h0, .inr (8, [.null, .null, .null, .null, .int 0, .int 0]))]) (run_I (rest := [.ref q1, .ref h0]) X (cn_X1 hZ q1) mi_X1 ml_X8_11 ⟨(Nat.le_of_ble_eq_true rfl), (Nat.le_of_ble_eq_true rfl)⟩ G hA [1] rfl rfl rfl hl.1 rfl (Nat.le_of_ble_eq_true rfl) dX8_init_9 ⟨(Nat.le_of_ble_eq_true rfl), (Nat.le_of_ble_eq_true rfl)⟩) rfl G hA [1] [0] rfl rfl rfl (by decide) (fun w1 H locs hY G => ?_)
  obtain ⟨b2, rfl⟩ := hY
  have G : Wo D (va_A ([(h0, .inr (8, [.null, .null, .null, .null, .int 0, .int 0]))]) s.heap.size) s.heap ([(h0, .inr (8, [.null, .null, .null, .null, .int 0, .int 0]))] ++ (kPl k q1 b2 Pl0)) H locs := G
  refine W.cs (cells' := 6) (slots' := 308) rfl rfl ?_
  refine r_putF X hin inw_X8 tyX8 tyX8_ok nmX8 G 0 rfl rfl 0 (by decide) fl_X8_12 rfl rfl rfl rfl (Nat.le_of_ble_eq_true rfl) (ws' := [(h0, .inr (8, [.ref q1, .null, .null, .null, .int 0, .int 0]))] ++ (kPl k q1 b2 Pl0)) rfl dX8_init_12 (fun H locs G => ?_)
  refine lv_aload_n hx hb dX8_init_15 rfl (lv_at hl 0 rfl) ?_
  refine r_new (ci := 3) (fs := [.int 0, .int 0, .int 0, .null, .null, .null, .null, .null, .null, .null, .null]) X G hA inw_X3 tyX3 tyX3_ok cl_X8_18 is_X3 in_X3 rfl (fun j hj => by match j, hj with | 0, _ => rfl | 1, _ => rfl | 2, _ => rfl | 3, _ => rfl | 4, _ => rfl | 5, _ => rfl | 6, _ => rfl | 7, _ => rfl | 8, _ => rfl | 9, _ => rfl | 10, _ => rfl | z + 11, h => exact absurd h (by omega)) (Nat.le_of_ble_eq_true rfl) (Nat.le_of_ble_eq_true rfl) dX8_init_16 (fun q3 H G => ?_)
  have G : Wo D (va_A ([(h0, .inr (8, [.null, .null, .null, .null, .int 0, .int 0]))]) s.heap.size) s.heap ([(h0, .inr (8, [.ref q1, .null, .null, .null, .int 0, .int 0]))] ++ (kPl k q1 b2 Pl0 ++ ([(q3, .inr (3, [.int 0, .int 0, .int 0, .null, .null, .null, .null, .null, .null, .null, .null]))]))) H locs := G
  refine W.cs (cells' := 7) (slots' := 319) rfl rfl ?_
  refine lv_dup hx hb dX8_init_19 rfl ?_
  refine p_C (st1 := [.ref q3, .ref h0]) (wr := [(h0, .inr (8, [.ref q1, .null, .null, .null, .int 0, .int 0]))] ++ (kPl k q1 b2 Pl0)) (run_I (rest := [.ref q3, .ref h0]) X (cn_X3 hZ q3) mi_X3 ml_X8_20 ⟨(Nat.le_of_ble_eq_true rfl), (Nat.le_of_ble_eq_true rfl)⟩ G hA [7] rfl rfl rfl hl.1 rfl (Nat.le_of_ble_eq_true rfl) dX8_init_20 ⟨(Nat.le_of_ble_eq_true rfl), (Nat.le_of_ble_eq_true rfl)⟩) rfl G hA [7] [0, 1, 2, 3, 4, 5, 6] rfl rfl rfl (by decide) (fun w1 H locs hY G => ?_)
  obtain ⟨b4, rfl⟩ := hY
  have G : Wo D (va_A ([(h0, .inr (8, [.null, .null, .null, .null, .int 0, .int 0]))]) s.heap.size) s.heap ([(h0, .inr (8, [.ref q1, .null, .null, .null, .int 0, .int 0]))] ++ (kPl k q1 b2 Pl0 ++ (kSc k q3 b4 Sc0))) H locs := G
  refine W.cs (cells' := 15) (slots' := 433) rfl rfl ?_
  refine r_putF X hin inw_X8 tyX8 tyX8_ok nmX8 G 0 rfl rfl 1 (by decide) fl_X8_21 rfl rfl rfl rfl (Nat.le_of_ble_eq_true rfl) (ws' := [(h0, .inr (8, [.ref q1, .ref q3, .null, .null, .int 0, .int 0]))] ++ (kPl k q1 b2 Pl0 ++ (kSc k q3 b4 Sc0))) rfl dX8_init_23 (fun H locs G => ?_)
  refine lv_aload_n hx hb dX8_init_26 rfl (lv_at hl 0 rfl) ?_
  refine r_new (ci := 4) (fs := [.null, .int 0, .int 0, .int 0]) X G hA inw_X4 tyX4 tyX4_ok cl_X8_25 is_X4 in_X4 rfl (fun j hj => by match j, hj with | 0, _ => rfl | 1, _ => rfl | 2, _ => rfl | 3, _ => rfl | z + 4, h => exact absurd h (by omega)) (Nat.le_of_ble_eq_true rfl) (Nat.le_of_ble_eq_true rfl) dX8_init_27 (fun q5 H G => ?_)
  have G : Wo D (va_A ([(h0, .inr (8, [.null, .null, .null, .null, .int 0, .int 0]))]) s.heap.size) s.heap ([(h0, .inr (8, [.ref q1, .ref q3, .null, .null, .int 0, .int 0]))] ++ (kPl k q1 b2 Pl0 ++ (kSc k q3 b4 Sc0 ++ ([(q5, .inr (4, [.null, .int 0, .int 0, .int 0]))])))) H locs := G
  refine W.cs (cells' := 16) (slots' := 437) rfl rfl ?_
  refine lv_dup hx hb dX8_init_30 rfl ?_
  refine p_C (st1 := [.ref q5, .ref h0]) (wr := [(h0, .inr (8, [.ref q1, .ref q3, .null, .null, .int 0, .int 0]))] ++ (kPl k q1 b2 Pl0 ++ (kSc k q3 b4 Sc0))) (run_IN (rest := [.ref q5, .ref h0]) X (cn_X4 hZ q5) mi_X4 mn_X8_27 ⟨(Nat.le_of_ble_eq_true rfl), (Nat.le_of_ble_eq_true rfl)⟩ G hA [16] rfl rfl rfl hl.1 rfl (Nat.le_of_ble_eq_true rfl) dX8_init_31 ⟨(Nat.le_of_ble_eq_true rfl), (Nat.le_of_ble_eq_true rfl)⟩) rfl G hA [16] [0, 1, 2, 3, 4, 5, 6, 7, 8, 9, 10, 11, 12, 13, 14, 15] rfl rfl rfl (by decide) (fun w1 H locs hY G => ?_)
  obtain ⟨b6, rfl⟩ := hY
  have G : Wo D (va_A ([(h0, .inr (8, [.null, .null, .null, .null, .int 0, .int 0]))]) s.heap.size) s.heap ([(h0, .inr (8, [.ref q1, .ref q3, .null, .null, .int 0, .int 0]))] ++ (kPl k q1 b2 Pl0 ++ (kSc k q3 b4 Sc0 ++ (kSk k q5 b6 Sk0)))) H locs := G
  refine W.cs (cells' := 17) (slots' := 587) rfl rfl ?_
  refine r_putF X hin inw_X8 tyX8 tyX8_ok nmX8 G 0 rfl rfl 2 (by decide) fl_X8_28 rfl rfl rfl rfl (Nat.le_of_ble_eq_true rfl) (ws' := [(h0, .inr (8, [.ref q1, .ref q3, .ref q5, .null, .int 0, .int 0]))] ++ (kPl k q1 b2 Pl0 ++ (kSc k q3 b4 Sc0 ++ (kSk k q5 b6 Sk0)))) rfl dX8_init_34 (fun H locs G => ?_)
  refine lv_aload_n hx hb dX8_init_37 rfl (lv_at hl 0 rfl) ?_
  refine r_new (ci := 5) (fs := [.null, .int 0]) X G hA inw_X5 tyX5 tyX5_ok cl_X8_32 is_X5 in_X5 rfl (fun j hj => by match j, hj with | 0, _ => rfl | 1, _ => rfl | z + 2, h => exact absurd h (by omega)) (Nat.le_of_ble_eq_true rfl) (Nat.le_of_ble_eq_true rfl) dX8_init_38 (fun q7 H G => ?_)
  have G : Wo D (va_A ([(h0, .inr (8, [.null, .null, .null, .null, .int 0, .int 0]))]) s.heap.size) s.heap ([(h0, .inr (8, [.ref q1, .ref q3, .ref q5, .null, .int 0, .int 0]))] ++ (kPl k q1 b2 Pl0 ++ (kSc k q3 b4 Sc0 ++ (kSk k q5 b6 Sk0 ++ ([(q7, .inr (5, [.null, .int 0]))]))))) H locs := G
  refine W.cs (cells' := 18) (slots' := 589) rfl rfl ?_
  refine lv_dup hx hb dX8_init_41 rfl ?_
  refine p_C (st1 := [.ref q7, .ref h0]) (wr := [(h0, .inr (8, [.ref q1, .ref q3, .ref q5, .null, .int 0, .int 0]))] ++ (kPl k q1 b2 Pl0 ++ (kSc k q3 b4 Sc0 ++ (kSk k q5 b6 Sk0)))) (run_IN (rest := [.ref q7, .ref h0]) X (cn_X5 hZ q7) mi_X5 mn_X8_34 ⟨(Nat.le_of_ble_eq_true rfl), (Nat.le_of_ble_eq_true rfl)⟩ G hA [18] rfl rfl rfl hl.1 rfl (Nat.le_of_ble_eq_true rfl) dX8_init_42 ⟨(Nat.le_of_ble_eq_true rfl), (Nat.le_of_ble_eq_true rfl)⟩) rfl G hA [18] [0, 1, 2, 3, 4, 5, 6, 7, 8, 9, 10, 11, 12, 13, 14, 15, 16, 17] rfl rfl rfl (by decide) (fun w1 H locs hY G => ?_)
  obtain ⟨b8, rfl⟩ := hY
  have G : Wo D (va_A ([(h0, .inr (8, [.null, .null, .null, .null, .int 0, .int 0]))]) s.heap.size) s.heap ([(h0, .inr (8, [.ref q1, .ref q3, .ref q5, .null, .int 0, .int 0]))] ++ (kPl k q1 b2 Pl0 ++ (kSc k q3 b4 Sc0 ++ (kSk k q5 b6 Sk0 ++ (kTp k q7 b8 Tp0))))) H locs := G
  refine W.cs (cells' := 19) (slots' := 1389) rfl rfl ?_
  refine r_putF X hin inw_X8 tyX8 tyX8_ok nmX8 G 0 rfl rfl 3 (by decide) fl_X8_35 rfl rfl rfl rfl (Nat.le_of_ble_eq_true rfl) (ws' := [(h0, .inr (8, [.ref q1, .ref q3, .ref q5, .ref q7, .int 0, .int 0]))] ++ (kPl k q1 b2 Pl0 ++ (kSc k q3 b4 Sc0 ++ (kSk k q5 b6 Sk0 ++ (kTp k q7 b8 Tp0))))) rfl dX8_init_45 (fun H locs G => ?_)
  refine lv_aload_n hx hb dX8_init_48 rfl (lv_at hl 0 rfl) ?_
  refine lv_iconst (v := 0) hx hb dX8_init_49 (by decide) ?_
  refine r_put X inw_X8 tyX8 tyX8_ok nmX8 G 0 rfl rfl 4 (by decide) fl_X8_39 rfl rfl rfl (Nat.le_of_ble_eq_true rfl) (ws' := [(h0, .inr (8, [.ref q1, .ref q3, .ref q5, .ref q7, .int (0), .int 0]))] ++ (kPl k q1 b2 Pl0 ++ (kSc k q3 b4 Sc0 ++ (kSk k q5 b6 Sk0 ++ (kTp k q7 b8 Tp0))))) rfl dX8_init_50 (fun H locs G => ?_)
  refine lv_aload_n hx hb dX8_init_53 rfl (lv_at hl 0 rfl) ?_
  refine lv_iconst (v := -1) hx hb dX8_init_54 (by decide) ?_
  refine r_put X inw_X8 tyX8 tyX8_ok nmX8 G 0 rfl rfl 5 (by decide) fl_X8_43 rfl rfl rfl (Nat.le_of_ble_eq_true rfl) (ws' := [(h0, .inr (8, [.ref q1, .ref q3, .ref q5, .ref q7, .int (0), .int (-1)]))] ++ (kPl k q1 b2 Pl0 ++ (kSc k q3 b4 Sc0 ++ (kSk k q5 b6 Sk0 ++ (kTp k q7 b8 Tp0))))) rfl dX8_init_55 (fun H locs G => ?_)
  have G := wo_perm G (ws' := kWd k h0 (fun i => [q1, q3, q5, q7].getD i 0) Wd0 ++ (kPl k ((fun i => [q1, q3, q5, q7].getD i 0) 0) b2 Pl0 ++ (kSc k ((fun i => [q1, q3, q5, q7].getD i 0) 1) b4 Sc0 ++ (kSk k ((fun i => [q1, q3, q5, q7].getD i 0) 2) b6 Sk0 ++ (kTp k ((fun i => [q1, q3, q5, q7].getD i 0) 3) b8 Tp0))))) [0, 1, 2, 3, 4, 5, 6, 7, 8, 9, 10, 11, 12, 13, 14, 15, 16, 17, 18, 19] rfl rfl
  exact e_nv X G ⟨(fun i => [q1, q3, q5, q7].getD i 0), b2, b4, b6, b8, rfl⟩ dX8_init_58
theorem mi_X6 : MI yX6_init cX6_init 1 0 := ⟨co_X6_init, in_X6, im_X6_init, rfl, by decide +kernel, by decide +kernel⟩
set_option maxHeartbeats 4000000 in
set_option maxRecDepth 100000 in
theorem cn_X6 {l : Launch} {D : va_G} {k : Nat → ClassId} {Z : ZT} (hZ : ZOK Z) (h0 : Nat) : CN l D k Z yX6_init cX6_init 1 none 2 43 14 170 [.ref h0] none ([(h0, .inr (6, [.null, .null, .null]))]) (fun w1 => ∃ (a0 : Nat → Nat) (a1 : Nat → Nat) (a2 : Nat → Nat), w1 = kTr k h0 a0 Tr0 ++ (kSc k (a0 0) a1 Sc0 ++ (kVw k (a0 1) a2 Vw0))) := by
  refine CN.start hZ (by decide) (Nat.le_of_ble_eq_true rfl) ?_
  intro p e s m below meth c ls X hin hl G
  have hx := X.1
  have hb := X.2.1
  have hA : ∀ q : Nat, s.heap.size ≤ q → va_A ([(h0, .inr (6, [.null, .null, .null]))]) s.heap.size q := fun _ h => Or.inr h
  have hl : lv_has ls 1 [(0, .ref h0)] := hl
  refine lv_aload_n hx hb dX6_init_0 rfl (lv_at hl 0 rfl) ?_
  refine r_oi X ml_X6_3 oi_im oi_co hl.1 dX6_init_1 (Nat.le_of_ble_eq_true rfl) (Nat.le_of_ble_eq_true rfl) ?_
  refine lv_aload_n hx hb dX6_init_4 rfl (lv_at hl 0 rfl) ?_
  refine r_new (ci := 3) (fs := [.int 0, .int 0, .int 0, .null, .null, .null, .null, .null, .null, .null, .null]) X G hA inw_X3 tyX3 tyX3_ok cl_X6_9 is_X3 in_X3 rfl (fun j hj => by match j, hj with | 0, _ => rfl | 1, _ => rfl | 2, _ => rfl | 3, _ => rfl | 4, _ => rfl | 5, _ => rfl | 6, _ => rfl | 7, _ => rfl | 8, _ => rfl | 9, _ => rfl | 10, _ => rfl | z + 11, h => exact absurd h (by omega)) (Nat.le_of_ble_eq_true rfl) (Nat.le_of_ble_eq_true rfl) dX6_init_5 (fun q1 H G => ?_)
  have G : Wo D (va_A ([(h0, .inr (6, [.null, .null, .null]))]) s.heap.size) s.heap ([(h0, .inr (6, [.null, .null, .null])), (q1, .inr (3, [.int 0, .int 0, .int 0, .null, .null, .null, .null, .null, .null, .null, .null]))]) H [] := G
  refine W.cs (cells' := 1) (slots' := 11) rfl rfl ?_
  refine lv_dup hx hb dX6_init_8 rfl ?_
  refine p_C (st1 := [.ref q1, .ref h0]) (wr := [(h0, .inr (6, [.null, .null, .null]))]) (run_I (rest := [.ref q1, .ref h0]) X (cn_X3 hZ q1) mi_X3 ml_X6_11 ⟨(Nat.le_of_ble_eq_true rfl), (Nat.le_of_ble_eq_true rfl)⟩ G hA [1] rfl rfl rfl hl.1 rfl (Nat.le_of_ble_eq_true rfl) dX6_init_9 ⟨(Nat.le_of_ble_eq_true rfl), (Nat.le_of_ble_eq_true rfl)⟩) rfl G hA [1] [0] rfl rfl rfl (by decide) (fun w1 H locs hY G => ?_)
  obtain ⟨b2, rfl⟩ := hY
  have G : Wo D (va_A ([(h0, .inr (6, [.null, .null, .null]))]) s.heap.size) s.heap ([(h0, .inr (6, [.null, .null, .null]))] ++ (kSc k q1 b2 Sc0)) H locs := G
  refine W.cs (cells' := 9) (slots' := 125) rfl rfl ?_
  refine r_putF X hin inw_X6 tyX6 tyX6_ok nmX6 G 0 rfl rfl 0 (by decide) fl_X6_12 rfl rfl rfl rfl (Nat.le_of_ble_eq_true rfl) (ws' := [(h0, .inr (6, [.ref q1, .null, .null]))] ++ (kSc k q1 b2 Sc0)) rfl dX6_init_12 (fun H locs G => ?_)
  refine lv_aload_n hx hb dX6_init_15 rfl (lv_at hl 0 rfl) ?_
  refine r_new (ci := 7) (fs := [.int 0, .int 0, .int 0, .int 0, .int 0, .int 0, .int 0, .int 0, .null, .null, .null, .int 0, .int 0]) X G hA inw_X7 tyX7 tyX7_ok cl_X6_18 is_X7 in_X7 rfl (fun j hj => by match j, hj with | 0, _ => rfl | 1, _ => rfl | 2, _ => rfl | 3, _ => rfl | 4, _ => rfl | 5, _ => rfl | 6, _ => rfl | 7, _ => rfl | 8, _ => rfl | 9, _ => rfl | 10, _ => rfl | 11, _ => rfl | 12, _ => rfl | z + 13, h => exact absurd h (by omega)) (Nat.le_of_ble_eq_true rfl) (Nat.le_of_ble_eq_true rfl) dX6_init_16 (fun q3 H G => ?_)
  have G : Wo D (va_A ([(h0, .inr (6, [.null, .null, .null]))]) s.heap.size) s.heap ([(h0, .inr (6, [.ref q1, .null, .null]))] ++ (kSc k q1 b2 Sc0 ++ ([(q3, .inr (7, [.int 0, .int 0, .int 0, .int 0, .int 0, .int 0, .int 0, .int 0, .null, .null, .null, .int 0, .int 0]))]))) H locs := G
  refine W.cs (cells' := 10) (slots' := 138) rfl rfl ?_
  refine lv_dup hx hb dX6_init_19 rfl ?_
  refine p_C (st1 := [.ref q3, .ref h0]) (wr := [(h0, .inr (6, [.ref q1, .null, .null]))] ++ (kSc k q1 b2 Sc0)) (run_IN (rest := [.ref q3, .ref h0]) X (cn_X7 hZ q3) mi_X7 mn_X6_20 ⟨(Nat.le_of_ble_eq_true rfl), (Nat.le_of_ble_eq_true rfl)⟩ G hA [10] rfl rfl rfl hl.1 rfl (Nat.le_of_ble_eq_true rfl) dX6_init_20 ⟨(Nat.le_of_ble_eq_true rfl), (Nat.le_of_ble_eq_true rfl)⟩) rfl G hA [10] [0, 1, 2, 3, 4, 5, 6, 7, 8, 9] rfl rfl rfl (by decide) (fun w1 H locs hY G => ?_)
  obtain ⟨b4, rfl⟩ := hY
  have G : Wo D (va_A ([(h0, .inr (6, [.null, .null, .null]))]) s.heap.size) s.heap ([(h0, .inr (6, [.ref q1, .null, .null]))] ++ (kSc k q1 b2 Sc0 ++ (kVw k q3 b4 Vw0))) H locs := G
  refine W.cs (cells' := 13) (slots' := 162) rfl rfl ?_
  refine r_putF X hin inw_X6 tyX6 tyX6_ok nmX6 G 0 rfl rfl 1 (by decide) fl_X6_21 rfl rfl rfl rfl (Nat.le_of_ble_eq_true rfl) (ws' := [(h0, .inr (6, [.ref q1, .ref q3, .null]))] ++ (kSc k q1 b2 Sc0 ++ (kVw k q3 b4 Vw0))) rfl dX6_init_23 (fun H locs G => ?_)
  refine lv_aload_n hx hb dX6_init_26 rfl (lv_at hl 0 rfl) ?_
  refine lv_bipush (v := 8) hx hb dX6_init_27 (by decide) ?_
  refine r_newa (atype := .int) X G hA ac_int rfl 0 rfl 8 rfl (by decide) (by decide) (by decide) (Nat.le_of_ble_eq_true rfl) (Nat.le_of_ble_eq_true rfl) dX6_init_29 (fun q5 H G => ?_)
  have G : Wo D (va_A ([(h0, .inr (6, [.null, .null, .null]))]) s.heap.size) s.heap ([(h0, .inr (6, [.ref q1, .ref q3, .null]))] ++ (kSc k q1 b2 Sc0 ++ (kVw k q3 b4 Vw0 ++ ([(q5, .inl (k 0, 8, .inl (fun _ => 0)))])))) H locs := G
  refine W.cs (cells' := 14) (slots' := 170) rfl rfl ?_
  refine r_putF X hin inw_X6 tyX6 tyX6_ok nmX6 G 0 rfl rfl 2 (by decide) fl_X6_25 rfl rfl rfl rfl (Nat.le_of_ble_eq_true rfl) (ws' := [(h0, .inr (6, [.ref q1, .ref q3, .ref q5]))] ++ (kSc k q1 b2 Sc0 ++ (kVw k q3 b4 Vw0 ++ ([(q5, .inl (k 0, 8, .inl (fun _ => 0)))])))) rfl dX6_init_31 (fun H locs G => ?_)
  have G := wo_perm G (ws' := kTr k h0 (fun i => [q1, q3, q5].getD i 0) Tr0 ++ (kSc k ((fun i => [q1, q3, q5].getD i 0) 0) b2 Sc0 ++ (kVw k ((fun i => [q1, q3, q5].getD i 0) 1) b4 Vw0))) [0, 14, 1, 2, 3, 4, 5, 6, 7, 8, 9, 10, 11, 12, 13] rfl rfl
  exact e_nv X G ⟨(fun i => [q1, q3, q5].getD i 0), b2, b4, rfl⟩ dX6_init_34
theorem mi_X2 : MI yX2_init cX2_init 1 0 := ⟨co_X2_init, in_X2, im_X2_init, rfl, by decide +kernel, by decide +kernel⟩
set_option maxHeartbeats 4000000 in
set_option maxRecDepth 100000 in
theorem cn_X2 {l : Launch} {D : va_G} {k : Nat → ClassId} {Z : ZT} (hZ : ZOK Z) (h0 : Nat) : CN l D k Z yX2_init cX2_init 1 none 2 43 7 404 [.ref h0] none ([(h0, .inr (2, [.null, .null, .int 0, .int 0, .int 0, .int 0, .int 0, .int 0, .int 0, .int 0, .int 0]))]) (fun w1 => ∃ (a0 : Nat → Nat) (a1 : Nat → Nat), w1 = kRd k h0 a0 Rd0 ++ (kPl k (a0 0) a1 Pl0)) := by
  refine CN.start hZ (by decide) (Nat.le_of_ble_eq_true rfl) ?_
  intro p e s m below meth c ls X hin hl G
  have hx := X.1
  have hb := X.2.1
  have hA : ∀ q : Nat, s.heap.size ≤ q → va_A ([(h0, .inr (2, [.null, .null, .int 0, .int 0, .int 0, .int 0, .int 0, .int 0, .int 0, .int 0, .int 0]))]) s.heap.size q := fun _ h => Or.inr h
  have hl : lv_has ls 1 [(0, .ref h0)] := hl
  refine lv_aload_n hx hb dX2_init_0 rfl (lv_at hl 0 rfl) ?_
  refine r_oi X ml_X2_3 oi_im oi_co hl.1 dX2_init_1 (Nat.le_of_ble_eq_true rfl) (Nat.le_of_ble_eq_true rfl) ?_
  refine lv_aload_n hx hb dX2_init_4 rfl (lv_at hl 0 rfl) ?_
  refine r_new (ci := 1) (fs := [.int 0, .int 0, .int 0, .null, .null, .null, .null, .null]) X G hA inw_X1 tyX1 tyX1_ok cl_X2_9 is_X1 in_X1 rfl (fun j hj => by match j, hj with | 0, _ => rfl | 1, _ => rfl | 2, _ => rfl | 3, _ => rfl | 4, _ => rfl | 5, _ => rfl | 6, _ => rfl | 7, _ => rfl | z + 8, h => exact absurd h (by omega)) (Nat.le_of_ble_eq_true rfl) (Nat.le_of_ble_eq_true rfl) dX2_init_5 (fun q1 H G => ?_)
  have G : Wo D (va_A ([(h0, .inr (2, [.null, .null, .int 0, .int 0, .int 0, .int 0, .int 0, .int 0, .int 0, .int 0, .int 0]))]) s.heap.size) s.heap ([(h0, .inr (2, [.null, .null, .int 0, .int 0, .int 0, .int 0, .int 0, .int 0, .int 0, .int 0, .int 0])), (q1, .inr (1, [.int 0, .int 0, .int 0, .null, .null, .null, .null, .null]))]) H [] := G
  refine W.cs (cells' := 1) (slots' := 8) rfl rfl ?_
  refine lv_dup hx hb dX2_init_8 rfl ?_
  refine p_C (st1 := [.ref q1, .ref h0]) (wr := [(h0, .inr (2, [.null, .null, .int 0, .int 0, .int 0, .int 0, .int 0, .int 0, .int 0, .int 0, .int 0]))]) (run_I (rest := [.ref q1, .ref h0]) X (cn_X1 hZ q1) mi_X1 ml_X2_11 ⟨(Nat.le_of_ble_eq_true rfl), (Nat.le_of_ble_eq_true rfl)⟩ G hA [1] rfl rfl rfl hl.1 rfl (Nat.le_of_ble_eq_true rfl) dX2_init_9 ⟨(Nat.le_of_ble_eq_true rfl), (Nat.le_of_ble_eq_true rfl)⟩) rfl G hA [1] [0] rfl rfl rfl (by decide) (fun w1 H locs hY G => ?_)
  obtain ⟨b2, rfl⟩ := hY
  have G : Wo D (va_A ([(h0, .inr (2, [.null, .null, .int 0, .int 0, .int 0, .int 0, .int 0, .int 0, .int 0, .int 0, .int 0]))]) s.heap.size) s.heap ([(h0, .inr (2, [.null, .null, .int 0, .int 0, .int 0, .int 0, .int 0, .int 0, .int 0, .int 0, .int 0]))] ++ (kPl k q1 b2 Pl0)) H locs := G
  refine W.cs (cells' := 6) (slots' := 308) rfl rfl ?_
  refine r_putF X hin inw_X2 tyX2 tyX2_ok nmX2 G 0 rfl rfl 0 (by decide) fl_X2_12 rfl rfl rfl rfl (Nat.le_of_ble_eq_true rfl) (ws' := [(h0, .inr (2, [.ref q1, .null, .int 0, .int 0, .int 0, .int 0, .int 0, .int 0, .int 0, .int 0, .int 0]))] ++ (kPl k q1 b2 Pl0)) rfl dX2_init_12 (fun H locs G => ?_)
  refine lv_aload_n hx hb dX2_init_15 rfl (lv_at hl 0 rfl) ?_
  refine lv_bipush (v := 96) hx hb dX2_init_16 (by decide) ?_
  refine r_newa (atype := .int) X G hA ac_int rfl 0 rfl 96 rfl (by decide) (by decide) (by decide) (Nat.le_of_ble_eq_true rfl) (Nat.le_of_ble_eq_true rfl) dX2_init_18 (fun q3 H G => ?_)
  have G : Wo D (va_A ([(h0, .inr (2, [.null, .null, .int 0, .int 0, .int 0, .int 0, .int 0, .int 0, .int 0, .int 0, .int 0]))]) s.heap.size) s.heap ([(h0, .inr (2, [.ref q1, .null, .int 0, .int 0, .int 0, .int 0, .int 0, .int 0, .int 0, .int 0, .int 0]))] ++ (kPl k q1 b2 Pl0 ++ ([(q3, .inl (k 0, 96, .inl (fun _ => 0)))]))) H locs := G
  refine W.cs (cells' := 7) (slots' := 404) rfl rfl ?_
  refine r_putF X hin inw_X2 tyX2 tyX2_ok nmX2 G 0 rfl rfl 1 (by decide) fl_X2_18 rfl rfl rfl rfl (Nat.le_of_ble_eq_true rfl) (ws' := [(h0, .inr (2, [.ref q1, .ref q3, .int 0, .int 0, .int 0, .int 0, .int 0, .int 0, .int 0, .int 0, .int 0]))] ++ (kPl k q1 b2 Pl0 ++ ([(q3, .inl (k 0, 96, .inl (fun _ => 0)))]))) rfl dX2_init_20 (fun H locs G => ?_)
  refine lv_aload_n hx hb dX2_init_23 rfl (lv_at hl 0 rfl) ?_
  refine lv_iconst (v := 0) hx hb dX2_init_24 (by decide) ?_
  refine r_put X inw_X2 tyX2 tyX2_ok nmX2 G 0 rfl rfl 2 (by decide) fl_X2_22 rfl rfl rfl (Nat.le_of_ble_eq_true rfl) (ws' := [(h0, .inr (2, [.ref q1, .ref q3, .int (0), .int 0, .int 0, .int 0, .int 0, .int 0, .int 0, .int 0, .int 0]))] ++ (kPl k q1 b2 Pl0 ++ ([(q3, .inl (k 0, 96, .inl (fun _ => 0)))]))) rfl dX2_init_25 (fun H locs G => ?_)
  refine lv_aload_n hx hb dX2_init_28 rfl (lv_at hl 0 rfl) ?_
  refine lv_iconst (v := -1) hx hb dX2_init_29 (by decide) ?_
  refine r_put X inw_X2 tyX2 tyX2_ok nmX2 G 0 rfl rfl 3 (by decide) fl_X2_26 rfl rfl rfl (Nat.le_of_ble_eq_true rfl) (ws' := [(h0, .inr (2, [.ref q1, .ref q3, .int (0), .int (-1), .int 0, .int 0, .int 0, .int 0, .int 0, .int 0, .int 0]))] ++ (kPl k q1 b2 Pl0 ++ ([(q3, .inl (k 0, 96, .inl (fun _ => 0)))]))) rfl dX2_init_30 (fun H locs G => ?_)
  refine lv_aload_n hx hb dX2_init_33 rfl (lv_at hl 0 rfl) ?_
  refine lv_iconst (v := 0) hx hb dX2_init_34 (by decide) ?_
  refine r_put X inw_X2 tyX2 tyX2_ok nmX2 G 0 rfl rfl 4 (by decide) fl_X2_29 rfl rfl rfl (Nat.le_of_ble_eq_true rfl) (ws' := [(h0, .inr (2, [.ref q1, .ref q3, .int (0), .int (-1), .int (0), .int 0, .int 0, .int 0, .int 0, .int 0, .int 0]))] ++ (kPl k q1 b2 Pl0 ++ ([(q3, .inl (k 0, 96, .inl (fun _ => 0)))]))) rfl dX2_init_35 (fun H locs G => ?_)
  refine lv_aload_n hx hb dX2_init_38 rfl (lv_at hl 0 rfl) ?_
  refine lv_iconst (v := 0) hx hb dX2_init_39 (by decide) ?_
  refine r_put X inw_X2 tyX2 tyX2_ok nmX2 G 0 rfl rfl 5 (by decide) fl_X2_32 rfl rfl rfl (Nat.le_of_ble_eq_true rfl) (ws' := [(h0, .inr (2, [.ref q1, .ref q3, .int (0), .int (-1), .int (0), .int (0), .int 0, .int 0, .int 0, .int 0, .int 0]))] ++ (kPl k q1 b2 Pl0 ++ ([(q3, .inl (k 0, 96, .inl (fun _ => 0)))]))) rfl dX2_init_40 (fun H locs G => ?_)
  refine lv_aload_n hx hb dX2_init_43 rfl (lv_at hl 0 rfl) ?_
  refine lv_iconst (v := 0) hx hb dX2_init_44 (by decide) ?_
  refine r_put X inw_X2 tyX2 tyX2_ok nmX2 G 0 rfl rfl 6 (by decide) fl_X2_35 rfl rfl rfl (Nat.le_of_ble_eq_true rfl) (ws' := [(h0, .inr (2, [.ref q1, .ref q3, .int (0), .int (-1), .int (0), .int (0), .int (0), .int 0, .int 0, .int 0, .int 0]))] ++ (kPl k q1 b2 Pl0 ++ ([(q3, .inl (k 0, 96, .inl (fun _ => 0)))]))) rfl dX2_init_45 (fun H locs G => ?_)
  refine lv_aload_n hx hb dX2_init_48 rfl (lv_at hl 0 rfl) ?_
  refine lv_iconst (v := 0) hx hb dX2_init_49 (by decide) ?_
  refine r_put X inw_X2 tyX2 tyX2_ok nmX2 G 0 rfl rfl 7 (by decide) fl_X2_38 rfl rfl rfl (Nat.le_of_ble_eq_true rfl) (ws' := [(h0, .inr (2, [.ref q1, .ref q3, .int (0), .int (-1), .int (0), .int (0), .int (0), .int (0), .int 0, .int 0, .int 0]))] ++ (kPl k q1 b2 Pl0 ++ ([(q3, .inl (k 0, 96, .inl (fun _ => 0)))]))) rfl dX2_init_50 (fun H locs G => ?_)
  refine lv_aload_n hx hb dX2_init_53 rfl (lv_at hl 0 rfl) ?_
  refine lv_iconst (v := -1) hx hb dX2_init_54 (by decide) ?_
  refine r_put X inw_X2 tyX2 tyX2_ok nmX2 G 0 rfl rfl 8 (by decide) fl_X2_41 rfl rfl rfl (Nat.le_of_ble_eq_true rfl) (ws' := [(h0, .inr (2, [.ref q1, .ref q3, .int (0), .int (-1), .int (0), .int (0), .int (0), .int (0), .int (-1), .int 0, .int 0]))] ++ (kPl k q1 b2 Pl0 ++ ([(q3, .inl (k 0, 96, .inl (fun _ => 0)))]))) rfl dX2_init_55 (fun H locs G => ?_)
  refine lv_aload_n hx hb dX2_init_58 rfl (lv_at hl 0 rfl) ?_
  refine lv_iconst (v := -1) hx hb dX2_init_59 (by decide) ?_
  refine r_put X inw_X2 tyX2 tyX2_ok nmX2 G 0 rfl rfl 9 (by decide) fl_X2_44 rfl rfl rfl (Nat.le_of_ble_eq_true rfl) (ws' := [(h0, .inr (2, [.ref q1, .ref q3, .int (0), .int (-1), .int (0), .int (0), .int (0), .int (0), .int (-1), .int (-1), .int 0]))] ++ (kPl k q1 b2 Pl0 ++ ([(q3, .inl (k 0, 96, .inl (fun _ => 0)))]))) rfl dX2_init_60 (fun H locs G => ?_)
  refine lv_aload_n hx hb dX2_init_63 rfl (lv_at hl 0 rfl) ?_
  refine lv_iconst (v := -1) hx hb dX2_init_64 (by decide) ?_
  refine r_put X inw_X2 tyX2 tyX2_ok nmX2 G 0 rfl rfl 10 (by decide) fl_X2_47 rfl rfl rfl (Nat.le_of_ble_eq_true rfl) (ws' := [(h0, .inr (2, [.ref q1, .ref q3, .int (0), .int (-1), .int (0), .int (0), .int (0), .int (0), .int (-1), .int (-1), .int (-1)]))] ++ (kPl k q1 b2 Pl0 ++ ([(q3, .inl (k 0, 96, .inl (fun _ => 0)))]))) rfl dX2_init_65 (fun H locs G => ?_)
  have G := wo_perm G (ws' := kRd k h0 (fun i => [q1, q3].getD i 0) Rd0 ++ (kPl k ((fun i => [q1, q3].getD i 0) 0) b2 Pl0)) [0, 7, 1, 2, 3, 4, 5, 6] rfl rfl
  exact e_nv X G ⟨(fun i => [q1, q3].getD i 0), b2, rfl⟩ dX2_init_68
theorem mi_X10 : MI yX10_init cX10_init 1 0 := ⟨co_X10_init, in_X10, im_X10_init, rfl, by decide +kernel, by decide +kernel⟩
set_option maxHeartbeats 4000000 in
set_option maxRecDepth 100000 in
theorem cn_X10 {l : Launch} {D : va_G} {k : Nat → ClassId} {Z : ZT} (hZ : ZOK Z) (h0 : Nat) {MO1 : MoT} (hf1 : FX10_firsts Mo00 0 = some MO1) : CN l D k Z yX10_init cX10_init 1 none 1 22 7 11531 [.ref h0] none ([(h0, .inr (10, [.null, .null, .null, .int 0, .int 0, .int 0, .int 0, .int 0, .null, .int 0, .int 0, .int 0, .int 0, .int 0, .int 0, .long 0, .int 0, .int 0, .null, .null, .null, .int 0]))]) (fun w1 => ∃ (a0 : Nat → Nat), w1 = kMo k h0 a0 MO1) := by
  refine CN.start hZ (by decide) (Nat.le_of_ble_eq_true rfl) ?_
  intro p e s m below meth c ls X hin hl G
  have hx := X.1
  have hb := X.2.1
  have hA : ∀ q : Nat, s.heap.size ≤ q → va_A ([(h0, .inr (10, [.null, .null, .null, .int 0, .int 0, .int 0, .int 0, .int 0, .null, .int 0, .int 0, .int 0, .int 0, .int 0, .int 0, .long 0, .int 0, .int 0, .null, .null, .null, .int 0]))]) s.heap.size q := fun _ h => Or.inr h
  have hl : lv_has ls 1 [(0, .ref h0)] := hl
  refine lv_aload_n hx hb dX10_init_0 rfl (lv_at hl 0 rfl) ?_
  refine r_oi X ml_X10_1 oi_im oi_co hl.1 dX10_init_1 (Nat.le_of_ble_eq_true rfl) (Nat.le_of_ble_eq_true rfl) ?_
  refine lv_aload_n hx hb dX10_init_4 rfl (lv_at hl 0 rfl) ?_
  refine lv_sipush (v := 9519) hx hb dX10_init_5 (by decide) ?_
  refine r_newa (atype := .int) X G hA ac_int rfl 0 rfl 9519 rfl (by decide) (by decide) (by decide) (Nat.le_of_ble_eq_true rfl) (Nat.le_of_ble_eq_true rfl) dX10_init_8 (fun q1 H G => ?_)
  have G : Wo D (va_A ([(h0, .inr (10, [.null, .null, .null, .int 0, .int 0, .int 0, .int 0, .int 0, .null, .int 0, .int 0, .int 0, .int 0, .int 0, .int 0, .long 0, .int 0, .int 0, .null, .null, .null, .int 0]))]) s.heap.size) s.heap ([(h0, .inr (10, [.null, .null, .null, .int 0, .int 0, .int 0, .int 0, .int 0, .null, .int 0, .int 0, .int 0, .int 0, .int 0, .int 0, .long 0, .int 0, .int 0, .null, .null, .null, .int 0])), (q1, .inl (k 0, 9519, .inl (fun _ => 0)))]) H [] := G
  refine W.cs (cells' := 1) (slots' := 9519) rfl rfl ?_
  refine r_putF X hin inw_X10 tyX10 tyX10_ok nmX10 G 0 rfl rfl 0 (by decide) fl_X10_7 rfl rfl rfl rfl (Nat.le_of_ble_eq_true rfl) (ws' := [(h0, .inr (10, [.ref q1, .null, .null, .int 0, .int 0, .int 0, .int 0, .int 0, .null, .int 0, .int 0, .int 0, .int 0, .int 0, .int 0, .long 0, .int 0, .int 0, .null, .null, .null, .int 0])), (q1, .inl (k 0, 9519, .inl (fun _ => 0)))]) rfl dX10_init_10 (fun H locs G => ?_)
  refine lv_aload_n hx hb dX10_init_13 rfl (lv_at hl 0 rfl) ?_
  refine lv_sipush (v := 800) hx hb dX10_init_14 (by decide) ?_
  refine r_newa (atype := .int) X G hA ac_int rfl 0 rfl 800 rfl (by decide) (by decide) (by decide) (Nat.le_of_ble_eq_true rfl) (Nat.le_of_ble_eq_true rfl) dX10_init_17 (fun q2 H G => ?_)
  have G : Wo D (va_A ([(h0, .inr (10, [.null, .null, .null, .int 0, .int 0, .int 0, .int 0, .int 0, .null, .int 0, .int 0, .int 0, .int 0, .int 0, .int 0, .long 0, .int 0, .int 0, .null, .null, .null, .int 0]))]) s.heap.size) s.heap ([(h0, .inr (10, [.ref q1, .null, .null, .int 0, .int 0, .int 0, .int 0, .int 0, .null, .int 0, .int 0, .int 0, .int 0, .int 0, .int 0, .long 0, .int 0, .int 0, .null, .null, .null, .int 0])), (q1, .inl (k 0, 9519, .inl (fun _ => 0))), (q2, .inl (k 0, 800, .inl (fun _ => 0)))]) H locs := G
  refine W.cs (cells' := 2) (slots' := 10319) rfl rfl ?_
  refine r_putF X hin inw_X10 tyX10 tyX10_ok nmX10 G 0 rfl rfl 1 (by decide) fl_X10_13 rfl rfl rfl rfl (Nat.le_of_ble_eq_true rfl) (ws' := [(h0, .inr (10, [.ref q1, .ref q2, .null, .int 0, .int 0, .int 0, .int 0, .int 0, .null, .int 0, .int 0, .int 0, .int 0, .int 0, .int 0, .long 0, .int 0, .int 0, .null, .null, .null, .int 0])), (q1, .inl (k 0, 9519, .inl (fun _ => 0))), (q2, .inl (k 0, 800, .inl (fun _ => 0)))]) rfl dX10_init_19 (fun H locs G => ?_)
  refine lv_aload_n hx hb dX10_init_22 rfl (lv_at hl 0 rfl) ?_
  refine lv_iconst (v := 3) hx hb dX10_init_23 (by decide) ?_
  refine r_newa (atype := .boolean) X G hA ac_boolean rfl 2 rfl 3 rfl (by decide) (by decide) (by decide) (Nat.le_of_ble_eq_true rfl) (Nat.le_of_ble_eq_true rfl) dX10_init_24 (fun q3 H G => ?_)
  have G : Wo D (va_A ([(h0, .inr (10, [.null, .null, .null, .int 0, .int 0, .int 0, .int 0, .int 0, .null, .int 0, .int 0, .int 0, .int 0, .int 0, .int 0, .long 0, .int 0, .int 0, .null, .null, .null, .int 0]))]) s.heap.size) s.heap ([(h0, .inr (10, [.ref q1, .ref q2, .null, .int 0, .int 0, .int 0, .int 0, .int 0, .null, .int 0, .int 0, .int 0, .int 0, .int 0, .int 0, .long 0, .int 0, .int 0, .null, .null, .null, .int 0])), (q1, .inl (k 0, 9519, .inl (fun _ => 0))), (q2, .inl (k 0, 800, .inl (fun _ => 0))), (q3, .inl (k 2, 3, .inl (fun _ => 0)))]) H locs := G
  refine W.cs (cells' := 3) (slots' := 10322) rfl rfl ?_
  refine r_putF X hin inw_X10 tyX10 tyX10_ok nmX10 G 0 rfl rfl 2 (by decide) fl_X10_16 rfl rfl rfl rfl (Nat.le_of_ble_eq_true rfl) (ws' := [(h0, .inr (10, [.ref q1, .ref q2, .ref q3, .int 0, .int 0, .int 0, .int 0, .int 0, .null, .int 0, .int 0, .int 0, .int 0, .int 0, .int 0, .long 0, .int 0, .int 0, .null, .null, .null, .int 0])), (q1, .inl (k 0, 9519, .inl (fun _ => 0))), (q2, .inl (k 0, 800, .inl (fun _ => 0))), (q3, .inl (k 2, 3, .inl (fun _ => 0)))]) rfl dX10_init_26 (fun H locs G => ?_)
  refine lv_aload_n hx hb dX10_init_29 rfl (lv_at hl 0 rfl) ?_
  refine lv_iconst (v := -1) hx hb dX10_init_30 (by decide) ?_
  refine r_put X inw_X10 tyX10 tyX10_ok nmX10 G 0 rfl rfl 5 (by decide) fl_X10_20 rfl rfl rfl (Nat.le_of_ble_eq_true rfl) (ws' := [(h0, .inr (10, [.ref q1, .ref q2, .ref q3, .int 0, .int 0, .int (-1), .int 0, .int 0, .null, .int 0, .int 0, .int 0, .int 0, .int 0, .int 0, .long 0, .int 0, .int 0, .null, .null, .null, .int 0])), (q1, .inl (k 0, 9519, .inl (fun _ => 0))), (q2, .inl (k 0, 800, .inl (fun _ => 0))), (q3, .inl (k 2, 3, .inl (fun _ => 0)))]) rfl dX10_init_31 (fun H locs G => ?_)
  refine lv_aload_n hx hb dX10_init_34 rfl (lv_at hl 0 rfl) ?_
  refine lv_bipush (v := 9) hx hb dX10_init_35 (by decide) ?_
  refine r_newa (atype := .int) X G hA ac_int rfl 0 rfl 9 rfl (by decide) (by decide) (by decide) (Nat.le_of_ble_eq_true rfl) (Nat.le_of_ble_eq_true rfl) dX10_init_37 (fun q4 H G => ?_)
  have G : Wo D (va_A ([(h0, .inr (10, [.null, .null, .null, .int 0, .int 0, .int 0, .int 0, .int 0, .null, .int 0, .int 0, .int 0, .int 0, .int 0, .int 0, .long 0, .int 0, .int 0, .null, .null, .null, .int 0]))]) s.heap.size) s.heap ([(h0, .inr (10, [.ref q1, .ref q2, .ref q3, .int 0, .int 0, .int (-1), .int 0, .int 0, .null, .int 0, .int 0, .int 0, .int 0, .int 0, .int 0, .long 0, .int 0, .int 0, .null, .null, .null, .int 0])), (q1, .inl (k 0, 9519, .inl (fun _ => 0))), (q2, .inl (k 0, 800, .inl (fun _ => 0))), (q3, .inl (k 2, 3, .inl (fun _ => 0))), (q4, .inl (k 0, 9, .inl (fun _ => 0)))]) H locs := G
  refine W.cs (cells' := 4) (slots' := 10331) rfl rfl ?_
  refine r_putF X hin inw_X10 tyX10 tyX10_ok nmX10 G 0 rfl rfl 8 (by decide) fl_X10_24 rfl rfl rfl rfl (Nat.le_of_ble_eq_true rfl) (ws' := [(h0, .inr (10, [.ref q1, .ref q2, .ref q3, .int 0, .int 0, .int (-1), .int 0, .int 0, .ref q4, .int 0, .int 0, .int 0, .int 0, .int 0, .int 0, .long 0, .int 0, .int 0, .null, .null, .null, .int 0])), (q1, .inl (k 0, 9519, .inl (fun _ => 0))), (q2, .inl (k 0, 800, .inl (fun _ => 0))), (q3, .inl (k 2, 3, .inl (fun _ => 0))), (q4, .inl (k 0, 9, .inl (fun _ => 0)))]) rfl dX10_init_39 (fun H locs G => ?_)
  refine lv_aload_n hx hb dX10_init_42 rfl (lv_at hl 0 rfl) ?_
  refine lv_sipush (v := 400) hx hb dX10_init_43 (by decide) ?_
  refine r_newa (atype := .int) X G hA ac_int rfl 0 rfl 400 rfl (by decide) (by decide) (by decide) (Nat.le_of_ble_eq_true rfl) (Nat.le_of_ble_eq_true rfl) dX10_init_46 (fun q5 H G => ?_)
  have G : Wo D (va_A ([(h0, .inr (10, [.null, .null, .null, .int 0, .int 0, .int 0, .int 0, .int 0, .null, .int 0, .int 0, .int 0, .int 0, .int 0, .int 0, .long 0, .int 0, .int 0, .null, .null, .null, .int 0]))]) s.heap.size) s.heap ([(h0, .inr (10, [.ref q1, .ref q2, .ref q3, .int 0, .int 0, .int (-1), .int 0, .int 0, .ref q4, .int 0, .int 0, .int 0, .int 0, .int 0, .int 0, .long 0, .int 0, .int 0, .null, .null, .null, .int 0])), (q1, .inl (k 0, 9519, .inl (fun _ => 0))), (q2, .inl (k 0, 800, .inl (fun _ => 0))), (q3, .inl (k 2, 3, .inl (fun _ => 0))), (q4, .inl (k 0, 9, .inl (fun _ => 0))), (q5, .inl (k 0, 400, .inl (fun _ => 0)))]) H locs := G
  refine W.cs (cells' := 5) (slots' := 10731) rfl rfl ?_
  refine r_putF X hin inw_X10 tyX10 tyX10_ok nmX10 G 0 rfl rfl 18 (by decide) fl_X10_27 rfl rfl rfl rfl (Nat.le_of_ble_eq_true rfl) (ws' := [(h0, .inr (10, [.ref q1, .ref q2, .ref q3, .int 0, .int 0, .int (-1), .int 0, .int 0, .ref q4, .int 0, .int 0, .int 0, .int 0, .int 0, .int 0, .long 0, .int 0, .int 0, .ref q5, .null, .null, .int 0])), (q1, .inl (k 0, 9519, .inl (fun _ => 0))), (q2, .inl (k 0, 800, .inl (fun _ => 0))), (q3, .inl (k 2, 3, .inl (fun _ => 0))), (q4, .inl (k 0, 9, .inl (fun _ => 0))), (q5, .inl (k 0, 400, .inl (fun _ => 0)))]) rfl dX10_init_48 (fun H locs G => ?_)
  refine lv_aload_n hx hb dX10_init_51 rfl (lv_at hl 0 rfl) ?_
  refine lv_sipush (v := 400) hx hb dX10_init_52 (by decide) ?_
  refine r_newa (atype := .int) X G hA ac_int rfl 0 rfl 400 rfl (by decide) (by decide) (by decide) (Nat.le_of_ble_eq_true rfl) (Nat.le_of_ble_eq_true rfl) dX10_init_55 (fun q6 H G => ?_)
  have G : Wo D (va_A ([(h0, .inr (10, [.null, .null, .null, .int 0, .int 0, .int 0, .int 0, .int 0, .null, .int 0, .int 0, .int 0, .int 0, .int 0, .int 0, .long 0, .int 0, .int 0, .null, .null, .null, .int 0]))]) s.heap.size) s.heap ([(h0, .inr (10, [.ref q1, .ref q2, .ref q3, .int 0, .int 0, .int (-1), .int 0, .int 0, .ref q4, .int 0, .int 0, .int 0, .int 0, .int 0, .int 0, .long 0, .int 0, .int 0, .ref q5, .null, .null, .int 0])), (q1, .inl (k 0, 9519, .inl (fun _ => 0))), (q2, .inl (k 0, 800, .inl (fun _ => 0))), (q3, .inl (k 2, 3, .inl (fun _ => 0))), (q4, .inl (k 0, 9, .inl (fun _ => 0))), (q5, .inl (k 0, 400, .inl (fun _ => 0))), (q6, .inl (k 0, 400, .inl (fun _ => 0)))]) H locs := G
  refine W.cs (cells' := 6) (slots' := 11131) rfl rfl ?_
  refine r_putF X hin inw_X10 tyX10 tyX10_ok nmX10 G 0 rfl rfl 19 (by decide) fl_X10_30 rfl rfl rfl rfl (Nat.le_of_ble_eq_true rfl) (ws' := [(h0, .inr (10, [.ref q1, .ref q2, .ref q3, .int 0, .int 0, .int (-1), .int 0, .int 0, .ref q4, .int 0, .int 0, .int 0, .int 0, .int 0, .int 0, .long 0, .int 0, .int 0, .ref q5, .ref q6, .null, .int 0])), (q1, .inl (k 0, 9519, .inl (fun _ => 0))), (q2, .inl (k 0, 800, .inl (fun _ => 0))), (q3, .inl (k 2, 3, .inl (fun _ => 0))), (q4, .inl (k 0, 9, .inl (fun _ => 0))), (q5, .inl (k 0, 400, .inl (fun _ => 0))), (q6, .inl (k 0, 400, .inl (fun _ => 0)))]) rfl dX10_init_57 (fun H locs G => ?_)
  refine lv_aload_n hx hb dX10_init_60 rfl (lv_at hl 0 rfl) ?_
  refine lv_sipush (v := 400) hx hb dX10_init_61 (by decide) ?_
  refine r_newa (atype := .int) X G hA ac_int rfl 0 rfl 400 rfl (by decide) (by decide) (by decide) (Nat.le_of_ble_eq_true rfl) (Nat.le_of_ble_eq_true rfl) dX10_init_64 (fun q7 H G => ?_)
  have G : Wo D (va_A ([(h0, .inr (10, [.null, .null, .null, .int 0, .int 0, .int 0, .int 0, .int 0, .null, .int 0, .int 0, .int 0, .int 0, .int 0, .int 0, .long 0, .int 0, .int 0, .null, .null, .null, .int 0]))]) s.heap.size) s.heap ([(h0, .inr (10, [.ref q1, .ref q2, .ref q3, .int 0, .int 0, .int (-1), .int 0, .int 0, .ref q4, .int 0, .int 0, .int 0, .int 0, .int 0, .int 0, .long 0, .int 0, .int 0, .ref q5, .ref q6, .null, .int 0])), (q1, .inl (k 0, 9519, .inl (fun _ => 0))), (q2, .inl (k 0, 800, .inl (fun _ => 0))), (q3, .inl (k 2, 3, .inl (fun _ => 0))), (q4, .inl (k 0, 9, .inl (fun _ => 0))), (q5, .inl (k 0, 400, .inl (fun _ => 0))), (q6, .inl (k 0, 400, .inl (fun _ => 0))), (q7, .inl (k 0, 400, .inl (fun _ => 0)))]) H locs := G
  refine W.cs (cells' := 7) (slots' := 11531) rfl rfl ?_
  refine r_putF X hin inw_X10 tyX10 tyX10_ok nmX10 G 0 rfl rfl 20 (by decide) fl_X10_33 rfl rfl rfl rfl (Nat.le_of_ble_eq_true rfl) (ws' := [(h0, .inr (10, [.ref q1, .ref q2, .ref q3, .int 0, .int 0, .int (-1), .int 0, .int 0, .ref q4, .int 0, .int 0, .int 0, .int 0, .int 0, .int 0, .long 0, .int 0, .int 0, .ref q5, .ref q6, .ref q7, .int 0])), (q1, .inl (k 0, 9519, .inl (fun _ => 0))), (q2, .inl (k 0, 800, .inl (fun _ => 0))), (q3, .inl (k 2, 3, .inl (fun _ => 0))), (q4, .inl (k 0, 9, .inl (fun _ => 0))), (q5, .inl (k 0, 400, .inl (fun _ => 0))), (q6, .inl (k 0, 400, .inl (fun _ => 0))), (q7, .inl (k 0, 400, .inl (fun _ => 0)))]) rfl dX10_init_66 (fun H locs G => ?_)
  refine lv_aload_n hx hb dX10_init_69 rfl (lv_at hl 0 rfl) ?_
  refine lv_iconst (v := 0) hx hb dX10_init_70 (by decide) ?_
  have G : Wo D (va_A ([(h0, .inr (10, [.null, .null, .null, .int 0, .int 0, .int 0, .int 0, .int 0, .null, .int 0, .int 0, .int 0, .int 0, .int 0, .int 0, .long 0, .int 0, .int 0, .null, .null, .null, .int 0]))]) s.heap.size) s.heap (kMo k h0 (fun i => [q1, q2, q3, q4, q5, q6, q7].getD i 0) Mo00) H locs := G
  refine p_N (st1 := []) (wr := []) (ws' := kMo k h0 (fun i => [q1, q2, q3, q4, q5, q6, q7].getD i 0) MO1) (run_V (rest := []) X (ctX10_firsts hZ h0 (fun i => [q1, q2, q3, q4, q5, q6, q7].getD i 0) hf1) mk_X10_firsts ml_X10_36 ⟨(Nat.le_of_ble_eq_true rfl), (Nat.le_of_ble_eq_true rfl)⟩ G [0, 1, 2, 3, 4, 5, 6, 7] rfl rfl 0 rfl rfl rfl hl.1 rfl (Nat.le_of_ble_eq_true rfl) dX10_init_71 ⟨(Nat.le_of_ble_eq_true rfl), (Nat.le_of_ble_eq_true rfl)⟩) rfl G [0, 1, 2, 3, 4, 5, 6, 7] [] 8 rfl rfl rfl rfl rfl (by decide) (by decide) rfl (fun H locs G => ?_)
  exact e_nv X G ⟨(fun i => [q1, q2, q3, q4, q5, q6, q7].getD i 0), rfl⟩ dX10_init_74
