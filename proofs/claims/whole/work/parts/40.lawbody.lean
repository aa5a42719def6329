abbrev fz0 : Nat → Nat := fun _ => 0
set_option maxHeartbeats 4000000 in
set_option maxRecDepth 100000 in
theorem k_start {s : State} (hE : En s) : ∃ (D : va_G) (k : Nat → ClassId), va_K D vwCl (TY k) s := by
  obtain ⟨c0, i0, h0⟩ := u_known (args := #[]) (C := RX0) (T := TX0) (N := 4) (n := 4) (ws := TB) (fun w h => hE.use h) inw_X0 (hE.use is_X0)
  obtain ⟨c1, i1, h1⟩ := u_known (args := #[]) (C := RX1) (T := TX1) (N := 8) (n := 8) (ws := TB) (fun w h => hE.use h) inw_X1 (hE.use is_X1)
  obtain ⟨c2, i2, h2⟩ := u_known (args := #[]) (C := RX2) (T := TX2) (N := 11) (n := 11) (ws := TB) (fun w h => hE.use h) inw_X2 (hE.use is_X2)
  obtain ⟨c3, i3, h3⟩ := u_known (args := #[]) (C := RX3) (T := TX3) (N := 11) (n := 11) (ws := TB) (fun w h => hE.use h) inw_X3 (hE.use is_X3)
  obtain ⟨c4, i4, h4⟩ := u_known (args := #[]) (C := RX4) (T := TX4) (N := 4) (n := 4) (ws := TB) (fun w h => hE.use h) inw_X4 (hE.use is_X4)
  obtain ⟨c5, i5, h5⟩ := u_known (args := #[]) (C := RX5) (T := TX5) (N := 2) (n := 2) (ws := TB) (fun w h => hE.use h) inw_X5 (hE.use is_X5)
  obtain ⟨c6, i6, h6⟩ := u_known (args := #[]) (C := RX6) (T := TX6) (N := 3) (n := 3) (ws := TB) (fun w h => hE.use h) inw_X6 (hE.use is_X6)
  obtain ⟨c7, i7, h7⟩ := u_known (args := #[]) (C := RX7) (T := TX7) (N := 13) (n := 13) (ws := TB) (fun w h => hE.use h) inw_X7 (hE.use is_X7)
  obtain ⟨c8, i8, h8⟩ := u_known (args := #[]) (C := RX8) (T := TX8) (N := 6) (n := 6) (ws := TB) (fun w h => hE.use h) inw_X8 (hE.use is_X8)
  obtain ⟨c9, i9, h9⟩ := u_known (args := #[]) (C := RX9) (T := TX9) (N := 7) (n := 7) (ws := TB) (fun w h => hE.use h) inw_X9 (hE.use is_X9)
  obtain ⟨c10, i10, h10⟩ := u_known (args := #[]) (C := RX10) (T := TX10) (N := 22) (n := 22) (ws := TB) (fun w h => hE.use h) inw_X10 (hE.use is_X10)
  obtain ⟨dC, dI, hKc⟩ : ∃ (dC : Nat → ClassId) (dI : Nat → Nat → Nat), ∀ (k : Nat) (q : vw_C), vwCl[k]? = some q → u_Kn s q.1 q.2.1 q.2.2 (dC k) (dI k) := by
    refine ⟨fun k => match k with | 0 => c0 | 1 => c1 | 2 => c2 | 3 => c3 | 4 => c4 | 5 => c5 | 6 => c6 | 7 => c7 | 8 => c8 | 9 => c9 | _ => c10, fun k => match k with | 0 => i0 | 1 => i1 | 2 => i2 | 3 => i3 | 4 => i4 | 5 => i5 | 6 => i6 | 7 => i7 | 8 => i8 | 9 => i9 | _ => i10, ?_⟩
    intro k q hq
    match k, hq with
    | 0, hq => cases hq; exact h0
    | 1, hq => cases hq; exact h1
    | 2, hq => cases hq; exact h2
    | 3, hq => cases hq; exact h3
    | 4, hq => cases hq; exact h4
    | 5, hq => cases hq; exact h5
    | 6, hq => cases hq; exact h6
    | 7, hq => cases hq; exact h7
    | 8, hq => cases hq; exact h8
    | 9, hq => cases hq; exact h9
    | 10, hq => cases hq; exact h10
    | k + 11, hq => simp [vwCl] at hq
  obtain ⟨k0, e0⟩ := ak_int (hE.use ac_int)
  obtain ⟨k1, e1⟩ := ak_byte (hE.use ac_byte)
  obtain ⟨k2, e2⟩ := ak_bool (hE.use ac_boolean)
  obtain ⟨k3, e3⟩ := ak_obj (hE.use ao_X3)
  obtain ⟨k4, e4⟩ := ak_obj (hE.use ao_X4)
  obtain ⟨k5, e5⟩ := ak_obj (hE.use ao_X8)
  refine ⟨(dC, dI), fun i => match i with | 0 => k0 | 1 => k1 | 2 => k2 | 3 => k3 | 4 => k4 | _ => k5, hKc, fun i q h => ?_⟩
  match i, h with
  | 0, h => cases h; exact e0
  | 1, h => cases h; exact e1
  | 2, h => cases h; exact e2
  | 3, h => cases h; exact e3
  | 4, h => cases h; exact e4
  | 5, h => cases h; exact e5
  | i + 6, h => simp [TY] at h
set_option maxHeartbeats 4000000 in
set_option maxRecDepth 100000 in
theorem law_body {Rel : HWS → MoT → Prop} (hBs : Bs Rel) {MO1 : MoT} (hf1 : FX10_firsts Mo00 0 = some MO1) (hR0 : Rel Hw0 MO1) {p : Program} {e : Env} {s : State} {m : MethodId} {below : List Frame} {meth : Method} {c : Code} (l : Launch) {b L : Nat} {xs : Nat → Int32} (hL : L ≤ 3072) (C0 : lw_At p s m meth c b L xs) : W p l e room_1 s m #[Value.ref b] below meth c s.heap [] 0 0 (lw_Z below #[Value.ref b] s) (entryFrame m ([Value.ref b] : List Value).toArray 4) := by
  obtain ⟨hx, hb, hr, hml, hown, hts, hX, hbl, hlocks, hgv⟩ := id C0
  have hE : En s := En.of hts
  obtain ⟨D, k, hK⟩ := k_start hE
  obtain ⟨t, hz⟩ := sz_start hts hgv
  have X : Cx p s m meth c D k (SZ t) (fun q : Nat => s.heap.size ≤ q) code 4 (some .boolean) R_law := ⟨hx, hb, hr, hlocks, hml, hown, hE, hK, hz, SZ_ok t⟩
  have hA : ∀ q : Nat, s.heap.size ≤ q → (fun q : Nat => s.heap.size ≤ q) q := fun _ h => h
  have G : Wo D (fun q : Nat => s.heap.size ≤ q) s.heap [] s.heap [] := ⟨fun k q h => by simp at h, ⟨fun i j p q h => by simp at h, fun k q h => by simp at h⟩, va_S.rf⟩
  have hl := lv_entry ([.ref b]) (n := 4) (Nat.le_of_ble_eq_true rfl)
  rw [lg_entry_eq]
  generalize (lg_sl ([.ref b]) ++ List.replicate (4 - (lg_sl ([.ref b])).length) Slot.unset).toArray = ls at hl ⊢
  have hl : lv_has ls 4 [(0, .ref b)] := hl
  refine r_new (ci := 9) (fs := [.null, .null, .null, .null, .null, .null, .null]) X G hA inw_X9 tyX9 tyX9_ok cl_L_7 is_X9 in_X9 rfl (fun j hj => by match j, hj with | 0, _ => rfl | 1, _ => rfl | 2, _ => rfl | 3, _ => rfl | 4, _ => rfl | 5, _ => rfl | 6, _ => rfl | z + 7, h => exact absurd h (by omega)) (Nat.le_of_ble_eq_true rfl) (Nat.le_of_ble_eq_true rfl) dL_law_0 (fun qx H G => ?_)
  have G : Wo D (fun q : Nat => s.heap.size ≤ q) s.heap [(qx, .inr (9, [.null, .null, .null, .null, .null, .null, .null]))] H [] := G
  refine W.cs (cells' := 1) (slots' := 7) rfl rfl ?_
  refine lv_dup hx hb dL_law_3 rfl ?_
  refine p_C (st1 := [.ref qx]) (wr := []) (run_I (rest := [.ref qx]) X (cn_X9 (SZ_ok t) qx) mi_X9 ml_L_9 ⟨(Nat.le_of_ble_eq_true rfl), (Nat.le_of_ble_eq_true rfl)⟩ G hA [0] rfl rfl rfl hl.1 rfl (Nat.le_of_ble_eq_true rfl) dL_law_4 ⟨(Nat.le_of_ble_eq_true rfl), (Nat.le_of_ble_eq_true rfl)⟩) rfl G hA [0] [] rfl rfl rfl (by decide) (fun w1 H locs hY G => ?_)
  obtain ⟨aHW, aWD, aPL, aSC, aSK, aTP, aHI, aHS, aHK, aRD, aPD, aVW, aTR, aST, aVT, aSF, rfl⟩ := hY
  have G : Wo D (fun q : Nat => s.heap.size ≤ q) s.heap (kHw k qx aHW () ++ ([(aHW 1, .inl (k 5, 3, .inr (.inr (.inr (.inr (fun _ => none))))))] ++ (kWd k (aHW 0) aWD Wd0 ++ (kPl k (aWD 0) aPL Pl0 ++ (kSc k (aWD 1) aSC Sc0 ++ (kSk k (aWD 2) aSK Sk0 ++ (kTp k (aWD 3) aTP Tp0)))) ++ (kHi k (aHW 2) aHI Hi0 ++ (kHS k (fun i => aHI (2 + i)) aHS (fun _ => Sc0) ++ (kHK k (fun i => aHI (10 + i)) aHK (fun _ => Sk0))) ++ (kRd k (aHW 3) aRD Rd0 ++ (kPl k (aRD 0) aPD Pl0) ++ (kVw k (aHW 4) aVW Vw0 ++ (kTr k (aHW 5) aTR Tr0 ++ (kSc k (aTR 0) aST Sc0 ++ (kVw k (aTR 1) aVT Vw0)) ++ (kSc k (aHW 6) aSF Sc0)))))))) H locs := G
  refine W.cs (cells' := 149) (slots' := 4407) rfl rfl ?_
  refine lv_astore_n (lv' := [(1, .ref qx), (0, .ref b)]) hx hb dL_law_7 rfl hl (by decide) rfl (fun ls hl => ?_)
  refine r_new (ci := 10) (fs := [.null, .null, .null, .int 0, .int 0, .int 0, .int 0, .int 0, .null, .int 0, .int 0, .int 0, .int 0, .int 0, .int 0, .long 0, .int 0, .int 0, .null, .null, .null, .int 0]) X G hA inw_X10 tyX10 tyX10_ok cl_L_10 is_X10 in_X10 rfl (fun j hj => by match j, hj with | 0, _ => rfl | 1, _ => rfl | 2, _ => rfl | 3, _ => rfl | 4, _ => rfl | 5, _ => rfl | 6, _ => rfl | 7, _ => rfl | 8, _ => rfl | 9, _ => rfl | 10, _ => rfl | 11, _ => rfl | 12, _ => rfl | 13, _ => rfl | 14, _ => rfl | 15, _ => rfl | 16, _ => rfl | 17, _ => rfl | 18, _ => rfl | 19, _ => rfl | 20, _ => rfl | 21, _ => rfl | z + 22, h => exact absurd h (by omega)) (Nat.le_of_ble_eq_true rfl) (Nat.le_of_ble_eq_true rfl) dL_law_8 (fun qm H G => ?_)
  refine W.cs (cells' := 150) (slots' := 4429) rfl rfl ?_
  refine lv_dup hx hb dL_law_11 rfl ?_
  refine p_C (st1 := [.ref qm]) (wr := kHw k qx aHW () ++ ([(aHW 1, .inl (k 5, 3, .inr (.inr (.inr (.inr (fun _ => none))))))] ++ (kWd k (aHW 0) aWD Wd0 ++ (kPl k (aWD 0) aPL Pl0 ++ (kSc k (aWD 1) aSC Sc0 ++ (kSk k (aWD 2) aSK Sk0 ++ (kTp k (aWD 3) aTP Tp0)))) ++ (kHi k (aHW 2) aHI Hi0 ++ (kHS k (fun i => aHI (2 + i)) aHS (fun _ => Sc0) ++ (kHK k (fun i => aHI (10 + i)) aHK (fun _ => Sk0))) ++ (kRd k (aHW 3) aRD Rd0 ++ (kPl k (aRD 0) aPD Pl0) ++ (kVw k (aHW 4) aVW Vw0 ++ (kTr k (aHW 5) aTR Tr0 ++ (kSc k (aTR 0) aST Sc0 ++ (kVw k (aTR 1) aVT Vw0)) ++ (kSc k (aHW 6) aSF Sc0)))))))) (run_I (rest := [.ref qm]) X (cn_X10 (SZ_ok t) qm hf1) mi_X10 ml_L_12 ⟨(Nat.le_of_ble_eq_true rfl), (Nat.le_of_ble_eq_true rfl)⟩ G hA [149] rfl rfl rfl hl.1 rfl (Nat.le_of_ble_eq_true rfl) dL_law_12 ⟨(Nat.le_of_ble_eq_true rfl), (Nat.le_of_ble_eq_true rfl)⟩) rfl G hA [149] [0, 1, 2, 3, 4, 5, 6, 7, 8, 9, 10, 11, 12, 13, 14, 15, 16, 17, 18, 19, 20, 21, 22, 23, 24, 25, 26, 27, 28, 29, 30, 31, 32, 33, 34, 35, 36, 37, 38, 39, 40, 41, 42, 43, 44, 45, 46, 47, 48, 49, 50, 51, 52, 53, 54, 55, 56, 57, 58, 59, 60, 61, 62, 63, 64, 65, 66, 67, 68, 69, 70, 71, 72, 73, 74, 75, 76, 77, 78, 79, 80, 81, 82, 83, 84, 85, 86, 87, 88, 89, 90, 91, 92, 93, 94, 95, 96, 97, 98, 99, 100, 101, 102, 103, 104, 105, 106, 107, 108, 109, 110, 111, 112, 113, 114, 115, 116, 117, 118, 119, 120, 121, 122, 123, 124, 125, 126, 127, 128, 129, 130, 131, 132, 133, 134, 135, 136, 137, 138, 139, 140, 141, 142, 143, 144, 145, 146, 147, 148] rfl rfl (by decide +kernel) (by decide) (fun w1 H locs hY G => ?_)
  obtain ⟨aMO, rfl⟩ := hY
  refine W.cs (cells' := 157) (slots' := 15960) rfl rfl ?_
  refine lv_astore_n (lv' := [(2, .ref qm), (1, .ref qx), (0, .ref b)]) hx hb dL_law_15 rfl hl (by decide) rfl (fun ls hl => ?_)
  refine lv_iconst (v := 0) hx hb dL_law_16 (by decide) ?_
  refine lv_istore_n (lv' := [(3, .int 0), (2, .ref qm), (1, .ref qx), (0, .ref b)]) hx hb dL_law_17 rfl hl (by decide) rfl (fun ls hl => ?_)
  have G := wo_perm G (ws' := wL k qx qm (fun i => [aHW, aWD, aPL, aSC, aSK, aTP, aHI, aRD, aPD, aVW, aTR, aST, aVT, aSF, aMO].getD i (fun _ => 0)) aHS aHK (fun _ => none) (fun _ => (fz0, fz0, fz0, fz0, fz0)) Hw0 MO1) [149, 150, 151, 152, 153, 154, 155, 156, 0, 1, 2, 3, 4, 5, 6, 7, 8, 9, 10, 11, 12, 13, 14, 15, 16, 17, 18, 19, 20, 21, 22, 23, 24, 113, 114, 115, 116, 117, 118, 119, 120, 121, 122, 123, 124, 125, 126, 127, 128, 129, 130, 131, 132, 133, 134, 135, 136, 137, 138, 139, 140, 141, 142, 143, 144, 145, 146, 147, 148, 25, 26, 27, 28, 29, 30, 31, 32, 33, 34, 35, 36, 37, 38, 39, 40, 41, 42, 43, 44, 45, 46, 47, 48, 49, 50, 51, 52, 53, 54, 55, 56, 57, 58, 59, 60, 61, 62, 63, 64, 65, 66, 67, 68, 69, 70, 71, 72, 73, 74, 75, 76, 77, 78, 79, 80, 81, 82, 83, 84, 85, 86, 87, 88, 89, 90, 91, 92, 93, 94, 95, 96, 97, 98, 99, 100, 101, 102, 103, 104, 105, 106, 107, 108, 109, 110, 111, 112] (by decide +kernel) rfl
  refine W.widen (k := 200 + 20 * 0) (n := 20000 + 1395 * 0) (by omega) (by omega) ?_
  exact law_loop hBs X hX hbl hL (L + 1) 0 Hw0 MO1 (fun _ => none) _ H locs ls (by omega) (by omega) hR0 (fun _ _ => rfl) G (lv_sub hl [3, 2, 1, 0] rfl)
