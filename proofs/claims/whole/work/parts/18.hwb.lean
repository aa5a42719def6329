noncomputable def FX9_ticks_29 (WD : WdT) (PL : PlT) (v1 : Int32) : (Int32 × Int32 × ScT × SkT × TrT × ScT × VwT × VwT) → Option ((Int32 × Int32 × ScT × SkT × TrT × ScT × VwT × VwT) ⊕ (Int32 × ScT × SkT × TrT × ScT × VwT × VwT)) := fun stL4 =>
  if v1 ≤ stL4.2.1 then (
    some (.inr (stL4.1, stL4.2.2.1, stL4.2.2.2.1, stL4.2.2.2.2.1, stL4.2.2.2.2.2.1, stL4.2.2.2.2.2.2.1, stL4.2.2.2.2.2.2.2))
  ) else (
    (FX9_passTick WD PL stL4.2.2.1 stL4.2.2.2.1 stL4.2.2.2.2.1 stL4.2.2.2.2.2.1 stL4.2.2.2.2.2.2.1 stL4.2.2.2.2.2.2.2).bind fun r6 =>
    nm (stL4.1 + r6.1) fun x7 =>
    nm (stL4.2.1 + 1) fun x8 =>
    some (.inl (x7, x8, r6.2.1, r6.2.2.1, r6.2.2.2.1, r6.2.2.2.2.1, r6.2.2.2.2.2.1, r6.2.2.2.2.2.2))
  )
noncomputable def FX9_ticks (HI : HiT) (HS : Nat → ScT) (HK : Nat → SkT) (WD : WdT) (PL : PlT) (SC : ScT) (SK : SkT) (TR : TrT) (SC_2 : ScT) (VW : VwT) (VW_2 : VwT) (v1 : Int32) : Option (Int32 × HiT × (Nat → ScT) × (Nat → SkT) × ScT × SkT × TrT × ScT × VwT × VwT) :=
  if v1 < (1 : Int32) then (
    some ((-1 : Int32), HI, HS, HK, SC, SK, TR, SC_2, VW, VW_2)
  ) else (
    if v1 ≤ (200 : Int32) then (
      (FX0_push HI HS HK WD SC SK).bind fun r3 =>
      (itr (FX9_ticks_29 WD PL v1) ((0 : Int32), (0 : Int32), SC, SK, TR, SC_2, VW, VW_2)).bind fun uL4 =>
      some (uL4.1, r3.1, r3.2.1, r3.2.2, uL4.2.1, uL4.2.2.1, uL4.2.2.2.1, uL4.2.2.2.2.1, uL4.2.2.2.2.2.1, uL4.2.2.2.2.2.2)
    ) else (
      some ((-1 : Int32), HI, HS, HK, SC, SK, TR, SC_2, VW, VW_2)
    )
  )
set_option maxHeartbeats 4000000 in
set_option maxRecDepth 100000 in
theorem ctX9_ticks {l : Launch} {D : va_G} {k : Nat → ClassId} {Z : ZT} (hZ : ZOK Z) (ot : Nat) (aHW : Nat → Nat) (aHI : Nat → Nat) (aHS : Nat → Nat → Nat) (aHK : Nat → Nat → Nat) (aWD : Nat → Nat) (aPL : Nat → Nat) (aSC : Nat → Nat) (aSK : Nat → Nat) (aTR : Nat → Nat) (aSC_2 : Nat → Nat) (aVW : Nat → Nat) (aVW_2 : Nat → Nat) {HI : HiT} {HS : Nat → ScT} {HK : Nat → SkT} {WD : WdT} {PL : PlT} {SC : ScT} {SK : SkT} {TR : TrT} {SC_2 : ScT} {VW : VwT} {VW_2 : VwT} {v1 : Int32} {q : Int32 × HiT × (Nat → ScT) × (Nat → SkT) × ScT × SkT × TrT × ScT × VwT × VwT} (hf : FX9_ticks HI HS HK WD PL SC SK TR SC_2 VW VW_2 v1 = some q) :
    CM l D k Z yX9_ticks cX9_ticks 4 (some .int) 6 137 [.ref ot, .int v1] (some (.int q.1)) (kHw k ot aHW () ++ (kHi k (aHW 2) aHI (HI) ++ (kHS k (fun i => aHI (2 + i)) aHS (HS) ++ (kHK k (fun i => aHI (10 + i)) aHK (HK) ++ (kWd k (aHW 0) aWD (WD) ++ (kPl k (aWD 0) aPL (PL) ++ (kSc k (aWD 1) aSC (SC) ++ (kSk k (aWD 2) aSK (SK) ++ (kTr k (aHW 5) aTR (TR) ++ (kSc k (aTR 0) aSC_2 (SC_2) ++ (kVw k (aTR 1) aVW (VW) ++ (kVw k (aHW 4) aVW_2 (VW_2))))))))))))) (kHw k ot aHW () ++ (kHi k (aHW 2) aHI (q.2.1) ++ (kHS k (fun i => aHI (2 + i)) aHS (q.2.2.1) ++ (kHK k (fun i => aHI (10 + i)) aHK (q.2.2.2.1) ++ (kWd k (aHW 0) aWD (WD) ++ (kPl k (aWD 0) aPL (PL) ++ (kSc k (aWD 1) aSC (q.2.2.2.2.1) ++ (kSk k (aWD 2) aSK (q.2.2.2.2.2.1) ++ (kTr k (aHW 5) aTR (q.2.2.2.2.2.2.1) ++ (kSc k (aTR 0) aSC_2 (q.2.2.2.2.2.2.2.1) ++ (kVw k (aTR 1) aVW (q.2.2.2.2.2.2.2.2.1) ++ (kVw k (aHW 4) aVW_2 (q.2.2.2.2.2.2.2.2.2))))))))))))) := by
  refine CM.start hZ (by decide) (Nat.le_of_ble_eq_true rfl) ?_
  intro p e s m below meth c ls X hl G
  have hx := X.1
  have hb := X.2.1
  have hl : lv_has ls 4 [(0, .ref ot), (1, .int v1)] := hl
  unfold FX9_ticks at hf
  refine lv_iload_n hx hb dX9_ticks_0 rfl (lv_at hl 1 rfl) ?_
  refine lv_iconst (v := 1) hx hb dX9_ticks_1 (by decide) ?_
  refine lv_icmp_lt (tgt := 12) hx hb dX9_ticks_2 (by decide) (fun c1 => ?_) (fun c1 => ?_)
  · replace hf := if_t hf c1
    refine lv_iconst (v := -1) hx hb dX9_ticks_12 (by decide) ?_
    cases hf
    exact e_mi X G dX9_ticks_13
  · replace hf := if_f hf c1
    refine lv_iload_n hx hb dX9_ticks_5 rfl (lv_at hl 1 rfl) ?_
    refine lv_sipush (v := 200) hx hb dX9_ticks_6 (by decide) ?_
    refine lv_icmp_le (tgt := 14) hx hb dX9_ticks_9 (by decide) (fun c2 => ?_) (fun c2 => ?_)
    · replace hf := if_t hf c2
      refine lv_aload_n hx hb dX9_ticks_14 rfl (lv_at hl 0 rfl) ?_
      refine r_get X inw_X9 G 0 rfl rfl 2 (by decide) fl_X9_23 (v := .ref (aHW 2)) rfl dX9_ticks_15 ?_
      refine lv_aload_n hx hb dX9_ticks_18 rfl (lv_at hl 0 rfl) ?_
      refine r_get X inw_X9 G 0 rfl rfl 0 (by decide) fl_X9_10 (v := .ref (aHW 0)) rfl dX9_ticks_19 ?_
      obtain ⟨r3, hcr3, hf⟩ := bd_some hf
      refine p_N (st1 := []) (wr := kHw k ot aHW () ++ (kPl k (aWD 0) aPL (PL) ++ (kTr k (aHW 5) aTR (TR) ++ (kSc k (aTR 0) aSC_2 (SC_2) ++ (kVw k (aTR 1) aVW (VW) ++ (kVw k (aHW 4) aVW_2 (VW_2))))))) (ws' := kHw k ot aHW () ++ (kHi k (aHW 2) aHI (r3.1) ++ (kHS k (fun i => aHI (2 + i)) aHS (r3.2.1) ++ (kHK k (fun i => aHI (10 + i)) aHK (r3.2.2) ++ (kWd k (aHW 0) aWD (WD) ++ (kPl k (aWD 0) aPL (PL) ++ (kSc k (aWD 1) aSC (SC) ++ (kSk k (aWD 2) aSK (SK) ++ (kTr k (aHW 5) aTR (TR) ++ (kSc k (aTR 0) aSC_2 (SC_2) ++ (kVw k (aTR 1) aVW (VW) ++ (kVw k (aHW 4) aVW_2 (VW_2))))))))))))) (run_V (rest := []) X (ctX0_push hZ (aHW 2) (aHW 0) aHI aHS aHK aWD aSC aSK hcr3) mk_X0_push ml_X9_116 ⟨(Nat.le_of_ble_eq_true rfl), (Nat.le_of_ble_eq_true rfl)⟩ G [1, 2, 3, 4, 5, 6, 7, 8, 9, 10, 11, 12, 13, 14, 15, 16, 17, 18, 19, 20, 21, 22, 23, 24, 25, 26, 27, 28, 29, 30, 31, 32, 33, 34, 35, 36, 37, 38, 39, 40, 41, 42, 43, 44, 45, 46, 47, 48, 49, 50, 51, 52, 53, 54, 55, 56, 57, 58, 59, 60, 61, 62, 63, 64, 65, 66, 67, 68, 69, 70, 71, 72, 73, 74, 75, 76, 77, 78, 79, 80, 81, 82, 83, 84, 85, 86, 87, 88, 89, 90, 91, 92, 99, 100, 101, 102, 103, 104, 105, 106, 107, 108, 109] rfl rfl 1 rfl rfl rfl hl.1 rfl (Nat.le_of_ble_eq_true rfl) dX9_ticks_22 ⟨Nat.zero_le _, Nat.zero_le _⟩) rfl G [1, 2, 3, 4, 5, 6, 7, 8, 9, 10, 11, 12, 13, 14, 15, 16, 17, 18, 19, 20, 21, 22, 23, 24, 25, 26, 27, 28, 29, 30, 31, 32, 33, 34, 35, 36, 37, 38, 39, 40, 41, 42, 43, 44, 45, 46, 47, 48, 49, 50, 51, 52, 53, 54, 55, 56, 57, 58, 59, 60, 61, 62, 63, 64, 65, 66, 67, 68, 69, 70, 71, 72, 73, 74, 75, 76, 77, 78, 79, 80, 81, 82, 83, 84, 85, 86, 87, 88, 89, 90, 91, 92, 99, 100, 101, 102, 103, 104, 105, 106, 107, 108, 109] [0, 93, 94, 95, 96, 97, 98, 110, 111, 112, 113, 114, 115, 116, 117, 118, 119, 120, 121, 122, 123, 124, 125, 126, 127, 128] 129 rfl rfl rfl rfl rfl (by decide +kernel) (by decide +kernel) rfl (fun H locs G => ?_)
      refine lv_iconst (v := 0) hx hb dX9_ticks_25 (by decide) ?_
      refine lv_istore_n (lv' := [(2, .int (0 : Int32)), (0, .ref ot), (1, .int v1)]) hx hb dX9_ticks_26 rfl hl (by decide) rfl (fun ls hl => ?_)
      refine lv_iconst (v := 0) hx hb dX9_ticks_27 (by decide) ?_
      refine lv_istore_n (lv' := [(3, .int (0 : Int32)), (2, .int (0 : Int32)), (0, .ref ot), (1, .int v1)]) hx hb dX9_ticks_28 rfl hl (by decide) rfl (fun ls hl => ?_)
      obtain ⟨exL4, hitL4, hfL4⟩ := bd_some hf
      obtain ⟨nL4, hitL4⟩ := itr_ex hitL4
      have KL4_0 : ∀ (u : Int32 × ScT × SkT × TrT × ScT × VwT × VwT) (H : Heap) (locs : List Loc) (ls : Array Slot), exL4 = u → Wo D (wA (kHw k ot aHW () ++ (kHi k (aHW 2) aHI (HI) ++ (kHS k (fun i => aHI (2 + i)) aHS (HS) ++ (kHK k (fun i => aHI (10 + i)) aHK (HK) ++ (kWd k (aHW 0) aWD (WD) ++ (kPl k (aWD 0) aPL (PL) ++ (kSc k (aWD 1) aSC (SC) ++ (kSk k (aWD 2) aSK (SK) ++ (kTr k (aHW 5) aTR (TR) ++ (kSc k (aTR 0) aSC_2 (SC_2) ++ (kVw k (aTR 1) aVW (VW) ++ (kVw k (aHW 4) aVW_2 (VW_2)))))))))))))) s.heap (kHw k ot aHW () ++ (kHi k (aHW 2) aHI (r3.1) ++ (kHS k (fun i => aHI (2 + i)) aHS (r3.2.1) ++ (kHK k (fun i => aHI (10 + i)) aHK (r3.2.2) ++ (kWd k (aHW 0) aWD (WD) ++ (kPl k (aWD 0) aPL (PL) ++ (kSc k (aWD 1) aSC (u.2.1) ++ (kSk k (aWD 2) aSK (u.2.2.1) ++ (kTr k (aHW 5) aTR (u.2.2.2.1) ++ (kSc k (aTR 0) aSC_2 (u.2.2.2.2.1) ++ (kVw k (aTR 1) aVW (u.2.2.2.2.2.1) ++ (kVw k (aHW 4) aVW_2 (u.2.2.2.2.2.2))))))))))))) H locs → lv_has ls 4 [(2, .int (u.1))] → W p l e (rmz 6 137) s m [.ref ot, .int v1].toArray below meth c H locs 0 0 (MQ below (Qm D (some (.int q.1)) (kHw k ot aHW () ++ (kHi k (aHW 2) aHI (HI) ++ (kHS k (fun i => aHI (2 + i)) aHS (HS) ++ (kHK k (fun i => aHI (10 + i)) aHK (HK) ++ (kWd k (aHW 0) aWD (WD) ++ (kPl k (aWD 0) aPL (PL) ++ (kSc k (aWD 1) aSC (SC) ++ (kSk k (aWD 2) aSK (SK) ++ (kTr k (aHW 5) aTR (TR) ++ (kSc k (aTR 0) aSC_2 (SC_2) ++ (kVw k (aTR 1) aVW (VW) ++ (kVw k (aHW 4) aVW_2 (VW_2))))))))))))) (kHw k ot aHW () ++ (kHi k (aHW 2) aHI (q.2.1) ++ (kHS k (fun i => aHI (2 + i)) aHS (q.2.2.1) ++ (kHK k (fun i => aHI (10 + i)) aHK (q.2.2.2.1) ++ (kWd k (aHW 0) aWD (WD) ++ (kPl k (aWD 0) aPL (PL) ++ (kSc k (aWD 1) aSC (q.2.2.2.2.1) ++ (kSk k (aWD 2) aSK (q.2.2.2.2.2.1) ++ (kTr k (aHW 5) aTR (q.2.2.2.2.2.2.1) ++ (kSc k (aTR 0) aSC_2 (q.2.2.2.2.2.2.2.1) ++ (kVw k (aTR 1) aVW (q.2.2.2.2.2.2.2.2.1) ++ (kVw k (aHW 4) aVW_2 (q.2.2.2.2.2.2.2.2.2)))))))))))))) [.ref ot, .int v1].toArray s 0 0 (wA (kHw k ot aHW () ++ (kHi k (aHW 2) aHI (HI) ++ (kHS k (fun i => aHI (2 + i)) aHS (HS) ++ (kHK k (fun i => aHI (10 + i)) aHK (HK) ++ (kWd k (aHW 0) aWD (WD) ++ (kPl k (aWD 0) aPL (PL) ++ (kSc k (aWD 1) aSC (SC) ++ (kSk k (aWD 2) aSK (SK) ++ (kTr k (aHW 5) aTR (TR) ++ (kSc k (aTR 0) aSC_2 (SC_2) ++ (kVw k (aTR 1) aVW (VW) ++ (kVw k (aHW 4) aVW_2 (VW_2))))))))))))))) (F0 m 47 ls []) := by
        intro uL4 H locs ls hex G hl
        rw [hex] at hfL4
        have hf := hfL4
        refine lv_iload_n hx hb dX9_ticks_47 rfl (lv_at hl 0 rfl) ?_
        cases hf
        exact e_mi X G dX9_ticks_48
      have LL4 : ∀ (n : Nat) (stL4 : Int32 × Int32 × ScT × SkT × TrT × ScT × VwT × VwT) (H : Heap) (locs : List Loc) (ls : Array Slot), Wo D (wA (kHw k ot aHW () ++ (kHi k (aHW 2) aHI (HI) ++ (kHS k (fun i => aHI (2 + i)) aHS (HS) ++ (kHK k (fun i => aHI (10 + i)) aHK (HK) ++ (kWd k (aHW 0) aWD (WD) ++ (kPl k (aWD 0) aPL (PL) ++ (kSc k (aWD 1) aSC (SC) ++ (kSk k (aWD 2) aSK (SK) ++ (kTr k (aHW 5) aTR (TR) ++ (kSc k (aTR 0) aSC_2 (SC_2) ++ (kVw k (aTR 1) aVW (VW) ++ (kVw k (aHW 4) aVW_2 (VW_2)))))))))))))) s.heap (kHw k ot aHW () ++ (kHi k (aHW 2) aHI (r3.1) ++ (kHS k (fun i => aHI (2 + i)) aHS (r3.2.1) ++ (kHK k (fun i => aHI (10 + i)) aHK (r3.2.2) ++ (kWd k (aHW 0) aWD (WD) ++ (kPl k (aWD 0) aPL (PL) ++ (kSc k (aWD 1) aSC (stL4.2.2.1) ++ (kSk k (aWD 2) aSK (stL4.2.2.2.1) ++ (kTr k (aHW 5) aTR (stL4.2.2.2.2.1) ++ (kSc k (aTR 0) aSC_2 (stL4.2.2.2.2.2.1) ++ (kVw k (aTR 1) aVW (stL4.2.2.2.2.2.2.1) ++ (kVw k (aHW 4) aVW_2 (stL4.2.2.2.2.2.2.2))))))))))))) H locs → lv_has ls 4 [(0, .ref ot), (1, .int v1), (2, .int (stL4.1)), (3, .int (stL4.2.1))] → it (FX9_ticks_29 WD PL v1) n stL4 = some exL4 → W p l e (rmz 6 137) s m [.ref ot, .int v1].toArray below meth c H locs 0 0 (MQ below (Qm D (some (.int q.1)) (kHw k ot aHW () ++ (kHi k (aHW 2) aHI (HI) ++ (kHS k (fun i => aHI (2 + i)) aHS (HS) ++ (kHK k (fun i => aHI (10 + i)) aHK (HK) ++ (kWd k (aHW 0) aWD (WD) ++ (kPl k (aWD 0) aPL (PL) ++ (kSc k (aWD 1) aSC (SC) ++ (kSk k (aWD 2) aSK (SK) ++ (kTr k (aHW 5) aTR (TR) ++ (kSc k (aTR 0) aSC_2 (SC_2) ++ (kVw k (aTR 1) aVW (VW) ++ (kVw k (aHW 4) aVW_2 (VW_2))))))))))))) (kHw k ot aHW () ++ (kHi k (aHW 2) aHI (q.2.1) ++ (kHS k (fun i => aHI (2 + i)) aHS (q.2.2.1) ++ (kHK k (fun i => aHI (10 + i)) aHK (q.2.2.2.1) ++ (kWd k (aHW 0) aWD (WD) ++ (kPl k (aWD 0) aPL (PL) ++ (kSc k (aWD 1) aSC (q.2.2.2.2.1) ++ (kSk k (aWD 2) aSK (q.2.2.2.2.2.1) ++ (kTr k (aHW 5) aTR (q.2.2.2.2.2.2.1) ++ (kSc k (aTR 0) aSC_2 (q.2.2.2.2.2.2.2.1) ++ (kVw k (aTR 1) aVW (q.2.2.2.2.2.2.2.2.1) ++ (kVw k (aHW 4) aVW_2 (q.2.2.2.2.2.2.2.2.2)))))))))))))) [.ref ot, .int v1].toArray s 0 0 (wA (kHw k ot aHW () ++ (kHi k (aHW 2) aHI (HI) ++ (kHS k (fun i => aHI (2 + i)) aHS (HS) ++ (kHK k (fun i => aHI (10 + i)) aHK (HK) ++ (kWd k (aHW 0) aWD (WD) ++ (kPl k (aWD 0) aPL (PL) ++ (kSc k (aWD 1) aSC (SC) ++ (kSk k (aWD 2) aSK (SK) ++ (kTr k (aHW 5) aTR (TR) ++ (kSc k (aTR 0) aSC_2 (SC_2) ++ (kVw k (aTR 1) aVW (VW) ++ (kVw k (aHW 4) aVW_2 (VW_2))))))))))))))) (F0 m 29 ls []) := by
        intro n
        induction n with
        | zero =>
          intro stL4 H locs ls G hl hit
          exact (it_zero hit).elim
        | succ n ih =>
          intro stL4 H locs ls G hl hit
          obtain ⟨oL4, hf, hoL4⟩ := it_bd hit
          unfold FX9_ticks_29 at hf
          refine lv_iload_n hx hb dX9_ticks_29 rfl (lv_at hl 3 rfl) ?_
          refine lv_iload_n hx hb dX9_ticks_30 rfl (lv_at hl 1 rfl) ?_
          refine lv_icmp_ge (tgt := 47) hx hb dX9_ticks_31 (by decide) (fun c5 => ?_) (fun c5 => ?_)
          · replace hf := if_t hf c5
            cases hf
            exact KL4_0 (stL4.1, stL4.2.2.1, stL4.2.2.2.1, stL4.2.2.2.2.1, stL4.2.2.2.2.2.1, stL4.2.2.2.2.2.2.1, stL4.2.2.2.2.2.2.2) _ _ _ (it_out hoL4) G (lv_sub hl [2] rfl)
          · replace hf := if_f hf c5
            refine lv_iload_n hx hb dX9_ticks_34 rfl (lv_at hl 2 rfl) ?_
            refine lv_aload_n hx hb dX9_ticks_35 rfl (lv_at hl 0 rfl) ?_
            obtain ⟨r6, hcr6, hf⟩ := bd_some hf
            refine p_N (st1 := [.int (r6.1), .int (stL4.1)]) (wr := kHi k (aHW 2) aHI (r3.1) ++ (kHS k (fun i => aHI (2 + i)) aHS (r3.2.1) ++ (kHK k (fun i => aHI (10 + i)) aHK (r3.2.2)))) (ws' := kHw k ot aHW () ++ (kHi k (aHW 2) aHI (r3.1) ++ (kHS k (fun i => aHI (2 + i)) aHS (r3.2.1) ++ (kHK k (fun i => aHI (10 + i)) aHK (r3.2.2) ++ (kWd k (aHW 0) aWD (WD) ++ (kPl k (aWD 0) aPL (PL) ++ (kSc k (aWD 1) aSC (r6.2.1) ++ (kSk k (aWD 2) aSK (r6.2.2.1) ++ (kTr k (aHW 5) aTR (r6.2.2.2.1) ++ (kSc k (aTR 0) aSC_2 (r6.2.2.2.2.1) ++ (kVw k (aTR 1) aVW (r6.2.2.2.2.2.1) ++ (kVw k (aHW 4) aVW_2 (r6.2.2.2.2.2.2))))))))))))) (run_V (rest := [.int (stL4.1)]) X (ctX9_passTick hZ ot aHW aWD aPL aSC aSK aTR aSC_2 aVW aVW_2 hcr6) mk_X9_passTick ml_X9_120 ⟨(Nat.le_of_ble_eq_true rfl), (Nat.le_of_ble_eq_true rfl)⟩ G [0, 92, 93, 94, 95, 96, 97, 98, 99, 100, 101, 102, 103, 104, 105, 106, 107, 108, 109, 110, 111, 112, 113, 114, 115, 116, 117, 118, 119, 120, 121, 122, 123, 124, 125, 126, 127, 128] rfl rfl 0 rfl rfl rfl hl.1 rfl (Nat.le_of_ble_eq_true rfl) dX9_ticks_36 ⟨Nat.zero_le _, Nat.zero_le _⟩) rfl G [0, 92, 93, 94, 95, 96, 97, 98, 99, 100, 101, 102, 103, 104, 105, 106, 107, 108, 109, 110, 111, 112, 113, 114, 115, 116, 117, 118, 119, 120, 121, 122, 123, 124, 125, 126, 127, 128] [1, 2, 3, 4, 5, 6, 7, 8, 9, 10, 11, 12, 13, 14, 15, 16, 17, 18, 19, 20, 21, 22, 23, 24, 25, 26, 27, 28, 29, 30, 31, 32, 33, 34, 35, 36, 37, 38, 39, 40, 41, 42, 43, 44, 45, 46, 47, 48, 49, 50, 51, 52, 53, 54, 55, 56, 57, 58, 59, 60, 61, 62, 63, 64, 65, 66, 67, 68, 69, 70, 71, 72, 73, 74, 75, 76, 77, 78, 79, 80, 81, 82, 83, 84, 85, 86, 87, 88, 89, 90, 91] 129 rfl rfl rfl rfl rfl (by decide +kernel) (by decide +kernel) rfl (fun H locs G => ?_)
            refine lv_iadd hx hb dX9_ticks_39 ?_
            obtain ⟨x7, ex7, hf⟩ := nm_some hf
            refine r_top (congrArg Value.int ex7) ?_
            refine lv_istore_n (lv' := [(2, .int x7), (0, .ref ot), (1, .int v1), (3, .int (stL4.2.1))]) hx hb dX9_ticks_40 rfl hl (by decide) rfl (fun ls hl => ?_)
            obtain ⟨x8, ex8, hf⟩ := nm_some hf
            refine lv_iinc (v := x8) (lv' := [(3, .int x8), (2, .int x7), (0, .ref ot), (1, .int v1)]) hx hb dX9_ticks_41 hl (k := 3) rfl (by subst ex8; rfl) (by decide) rfl (fun ls hl => ?_)
            refine lv_goto (tgt := 29) hx hb dX9_ticks_44 (by decide) ?_
            cases hf
            exact ih (x7, x8, r6.2.1, r6.2.2.1, r6.2.2.2.1, r6.2.2.2.2.1, r6.2.2.2.2.2.1, r6.2.2.2.2.2.2) _ _ _ G (lv_sub hl [2, 3, 1, 0] rfl) hoL4
      exact LL4 nL4 ((0 : Int32), (0 : Int32), SC, SK, TR, SC_2, VW, VW_2) _ _ _ G (lv_sub hl [2, 3, 1, 0] rfl) hitL4
    · replace hf := if_f hf c2
      refine lv_iconst (v := -1) hx hb dX9_ticks_12 (by decide) ?_
      cases hf
      exact e_mi X G dX9_ticks_13
theorem mk_X9_ticks : MV yX9_ticks cX9_ticks 4 (some .int) 1 := ⟨co_X9_ticks, in_X9, im_X9_ticks, se_X9_ticks, by decide +kernel, by decide +kernel⟩
noncomputable def FX9_watch_35 (WD : WdT) (PL : PlT) : (Int32 × ScT × SkT × TrT × ScT × VwT × VwT) → Option ((Int32 × ScT × SkT × TrT × ScT × VwT × VwT) ⊕ ((ScT × SkT × TrT × ScT × VwT × VwT) ⊕ (Int32 × ScT × SkT × TrT × ScT × VwT × VwT))) := fun stL4 =>
  if (200 : Int32) < stL4.1 then (
    some (.inr (.inl (stL4.2.1, stL4.2.2.1, stL4.2.2.2.1, stL4.2.2.2.2.1, stL4.2.2.2.2.2.1, stL4.2.2.2.2.2.2)))
  ) else (
    (FX9_passTick WD PL stL4.2.1 stL4.2.2.1 stL4.2.2.2.1 stL4.2.2.2.2.1 stL4.2.2.2.2.2.1 stL4.2.2.2.2.2.2).bind fun r6 =>
    if r6.1 ≤ 0 then (
      nm (stL4.1 + 1) fun x8 =>
      some (.inl (x8, r6.2.1, r6.2.2.1, r6.2.2.2.1, r6.2.2.2.2.1, r6.2.2.2.2.2.1, r6.2.2.2.2.2.2))
    ) else (
      some (.inr (.inr ((stL4.1, r6.2.1, r6.2.2.1, r6.2.2.2.1, r6.2.2.2.2.1, r6.2.2.2.2.2.1, r6.2.2.2.2.2.2))))
    )
  )
noncomputable def FX9_watch (HI : HiT) (HS : Nat → ScT) (HK : Nat → SkT) (WD : WdT) (PL : PlT) (SC : ScT) (SK : SkT) (TR : TrT) (SC_2 : ScT) (VW : VwT) (VW_2 : VwT) : Option (Int32 × HiT × (Nat → ScT) × (Nat → SkT) × ScT × SkT × TrT × ScT × VwT × VwT) :=
  (FX3_allEnded SC PL).bind fun r1 =>
  if (bI r1) = 0 then (
    (FX0_push HI HS HK WD SC SK).bind fun r3 =>
    (itr (FX9_watch_35 WD PL) ((1 : Int32), SC, SK, TR, SC_2, VW, VW_2)).bind fun exL4 =>
    Sum.elim (fun uL4 =>
      some ((200 : Int32), r3.1, r3.2.1, r3.2.2, uL4.1, uL4.2.1, uL4.2.2.1, uL4.2.2.2.1, uL4.2.2.2.2.1, uL4.2.2.2.2.2)
    )
    (fun uL4 =>
      some (uL4.1, r3.1, r3.2.1, r3.2.2, uL4.2.1, uL4.2.2.1, uL4.2.2.2.1, uL4.2.2.2.2.1, uL4.2.2.2.2.2.1, uL4.2.2.2.2.2.2)
    ) exL4
  ) else (
    some ((-1 : Int32), HI, HS, HK, SC, SK, TR, SC_2, VW, VW_2)
  )
set_option maxHeartbeats 4000000 in
set_option maxRecDepth 100000 in
theorem ctX9_watch {l : Launch} {D : va_G} {k : Nat → ClassId} {Z : ZT} (hZ : ZOK Z) (ot : Nat) (aHW : Nat → Nat) (aHI : Nat → Nat) (aHS : Nat → Nat → Nat) (aHK : Nat → Nat → Nat) (aWD : Nat → Nat) (aPL : Nat → Nat) (aSC : Nat → Nat) (aSK : Nat → Nat) (aTR : Nat → Nat) (aSC_2 : Nat → Nat) (aVW : Nat → Nat) (aVW_2 : Nat → Nat) {HI : HiT} {HS : Nat → ScT} {HK : Nat → SkT} {WD : WdT} {PL : PlT} {SC : ScT} {SK : SkT} {TR : TrT} {SC_2 : ScT} {VW : VwT} {VW_2 : VwT} {q : Int32 × HiT × (Nat → ScT) × (Nat → SkT) × ScT × SkT × TrT × ScT × VwT × VwT} (hf : FX9_watch HI HS HK WD PL SC SK TR SC_2 VW VW_2 = some q) :
    CM l D k Z yX9_watch cX9_watch 2 (some .int) 6 137 [.ref ot] (some (.int q.1)) (kHw k ot aHW () ++ (kHi k (aHW 2) aHI (HI) ++ (kHS k (fun i => aHI (2 + i)) aHS (HS) ++ (kHK k (fun i => aHI (10 + i)) aHK (HK) ++ (kWd k (aHW 0) aWD (WD) ++ (kPl k (aWD 0) aPL (PL) ++ (kSc k (aWD 1) aSC (SC) ++ (kSk k (aWD 2) aSK (SK) ++ (kTr k (aHW 5) aTR (TR) ++ (kSc k (aTR 0) aSC_2 (SC_2) ++ (kVw k (aTR 1) aVW (VW) ++ (kVw k (aHW 4) aVW_2 (VW_2))))))))))))) (kHw k ot aHW () ++ (kHi k (aHW 2) aHI (q.2.1) ++ (kHS k (fun i => aHI (2 + i)) aHS (q.2.2.1) ++ (kHK k (fun i => aHI (10 + i)) aHK (q.2.2.2.1) ++ (kWd k (aHW 0) aWD (WD) ++ (kPl k (aWD 0) aPL (PL) ++ (kSc k (aWD 1) aSC (q.2.2.2.2.1) ++ (kSk k (aWD 2) aSK (q.2.2.2.2.2.1) ++ (kTr k (aHW 5) aTR (q.2.2.2.2.2.2.1) ++ (kSc k (aTR 0) aSC_2 (q.2.2.2.2.2.2.2.1) ++ (kVw k (aTR 1) aVW (q.2.2.2.2.2.2.2.2.1) ++ (kVw k (aHW 4) aVW_2 (q.2.2.2.2.2.2.2.2.2))))))))))))) := by
  refine CM.start hZ (by decide) (Nat.le_of_ble_eq_true rfl) ?_
  intro p e s m below meth c ls X hl G
  have hx := X.1
  have hb := X.2.1
  have hl : lv_has ls 2 [(0, .ref ot)] := hl
  unfold FX9_watch at hf
  refine lv_aload_n hx hb dX9_watch_0 rfl (lv_at hl 0 rfl) ?_
  refine r_get X inw_X9 G 0 rfl rfl 0 (by decide) fl_X9_10 (v := .ref (aHW 0)) rfl dX9_watch_1 ?_
  refine r_get X inw_X8 G 92 rfl rfl 1 (by decide) fl_X9_97 (v := .ref (aWD 1)) rfl dX9_watch_4 ?_
  refine lv_aload_n hx hb dX9_watch_7 rfl (lv_at hl 0 rfl) ?_
  refine r_get X inw_X9 G 0 rfl rfl 0 (by decide) fl_X9_10 (v := .ref (aHW 0)) rfl dX9_watch_8 ?_
  refine r_get X inw_X8 G 92 rfl rfl 0 (by decide) fl_X9_81 (v := .ref (aWD 0)) rfl dX9_watch_11 ?_
  obtain ⟨r1, hcr1, hf⟩ := bd_some hf
  refine p_R (st1 := [.int (bI r1)]) (run_V (rest := []) X (ctX3_allEnded hZ (aWD 1) (aWD 0) aSC aPL hcr1) mk_X3_allEnded ml_X9_124 ⟨(Nat.le_of_ble_eq_true rfl), (Nat.le_of_ble_eq_true rfl)⟩ G [99, 100, 101, 102, 103, 104, 105, 106, 107, 93, 94, 95, 96, 97, 98] rfl rfl 99 rfl rfl rfl hl.1 rfl (Nat.le_of_ble_eq_true rfl) dX9_watch_14 ⟨Nat.zero_le _, Nat.zero_le _⟩) rfl ?_
  refine lv_if_eq (tgt := 22) hx hb dX9_watch_17 (by decide) (fun c2 => ?_) (fun c2 => ?_)
  · replace hf := if_t hf c2
    refine lv_aload_n hx hb dX9_watch_22 rfl (lv_at hl 0 rfl) ?_
    refine r_get X inw_X9 G 0 rfl rfl 2 (by decide) fl_X9_23 (v := .ref (aHW 2)) rfl dX9_watch_23 ?_
    refine lv_aload_n hx hb dX9_watch_26 rfl (lv_at hl 0 rfl) ?_
    refine r_get X inw_X9 G 0 rfl rfl 0 (by decide) fl_X9_10 (v := .ref (aHW 0)) rfl dX9_watch_27 ?_
    obtain ⟨r3, hcr3, hf⟩ := bd_some hf
    refine p_N (st1 := []) (wr := kHw k ot aHW () ++ (kPl k (aWD 0) aPL (PL) ++ (kTr k (aHW 5) aTR (TR) ++ (kSc k (aTR 0) aSC_2 (SC_2) ++ (kVw k (aTR 1) aVW (VW) ++ (kVw k (aHW 4) aVW_2 (VW_2))))))) (ws' := kHw k ot aHW () ++ (kHi k (aHW 2) aHI (r3.1) ++ (kHS k (fun i => aHI (2 + i)) aHS (r3.2.1) ++ (kHK k (fun i => aHI (10 + i)) aHK (r3.2.2) ++ (kWd k (aHW 0) aWD (WD) ++ (kPl k (aWD 0) aPL (PL) ++ (kSc k (aWD 1) aSC (SC) ++ (kSk k (aWD 2) aSK (SK) ++ (kTr k (aHW 5) aTR (TR) ++ (kSc k (aTR 0) aSC_2 (SC_2) ++ (kVw k (aTR 1) aVW (VW) ++ (kVw k (aHW 4) aVW_2 (VW_2))))))))))))) (run_V (rest := []) X (ctX0_push hZ (aHW 2) (aHW 0) aHI aHS aHK aWD aSC aSK hcr3) mk_X0_push ml_X9_116 ⟨(Nat.le_of_ble_eq_true rfl), (Nat.le_of_ble_eq_true rfl)⟩ G [1, 2, 3, 4, 5, 6, 7, 8, 9, 10, 11, 12, 13, 14, 15, 16, 17, 18, 19, 20, 21, 22, 23, 24, 25, 26, 27, 28, 29, 30, 31, 32, 33, 34, 35, 36, 37, 38, 39, 40, 41, 42, 43, 44, 45, 46, 47, 48, 49, 50, 51, 52, 53, 54, 55, 56, 57, 58, 59, 60, 61, 62, 63, 64, 65, 66, 67, 68, 69, 70, 71, 72, 73, 74, 75, 76, 77, 78, 79, 80, 81, 82, 83, 84, 85, 86, 87, 88, 89, 90, 91, 92, 99, 100, 101, 102, 103, 104, 105, 106, 107, 108, 109] rfl rfl 1 rfl rfl rfl hl.1 rfl (Nat.le_of_ble_eq_true rfl) dX9_watch_30 ⟨Nat.zero_le _, Nat.zero_le _⟩) rfl G [1, 2, 3, 4, 5, 6, 7, 8, 9, 10, 11, 12, 13, 14, 15, 16, 17, 18, 19, 20, 21, 22, 23, 24, 25, 26, 27, 28, 29, 30, 31, 32, 33, 34, 35, 36, 37, 38, 39, 40, 41, 42, 43, 44, 45, 46, 47, 48, 49, 50, 51, 52, 53, 54, 55, 56, 57, 58, 59, 60, 61, 62, 63, 64, 65, 66, 67, 68, 69, 70, 71, 72, 73, 74, 75, 76, 77, 78, 79, 80, 81, 82, 83, 84, 85, 86, 87, 88, 89, 90, 91, 92, 99, 100, 101, 102, 103, 104, 105, 106, 107, 108, 109] [0, 93, 94, 95, 96, 97, 98, 110, 111, 112, 113, 114, 115, 116, 117, 118, 119, 120, 121, 122, 123, 124, 125, 126, 127, 128] 129 rfl rfl rfl rfl rfl (by decide +kernel) (by decide +kernel) rfl (fun H locs G => ?_)
    refine lv_iconst (v := 1) hx hb dX9_watch_33 (by decide) ?_
    refine lv_istore_n (lv' := [(1, .int (1 : Int32)), (0, .ref ot)]) hx hb dX9_watch_34 rfl hl (by decide) rfl (fun ls hl => ?_)
    obtain ⟨exL4, hitL4, hfL4⟩ := bd_some hf
    obtain ⟨nL4, hitL4⟩ := itr_ex hitL4
    have KL4_0 : ∀ (u : ScT × SkT × TrT × ScT × VwT × VwT) (H : Heap) (locs : List Loc) (ls : Array Slot), exL4 = Sum.inl u → Wo D (wA (kHw k ot aHW () ++ (kHi k (aHW 2) aHI (HI) ++ (kHS k (fun i => aHI (2 + i)) aHS (HS) ++ (kHK k (fun i => aHI (10 + i)) aHK (HK) ++ (kWd k (aHW 0) aWD (WD) ++ (kPl k (aWD 0) aPL (PL) ++ (kSc k (aWD 1) aSC (SC) ++ (kSk k (aWD 2) aSK (SK) ++ (kTr k (aHW 5) aTR (TR) ++ (kSc k (aTR 0) aSC_2 (SC_2) ++ (kVw k (aTR 1) aVW (VW) ++ (kVw k (aHW 4) aVW_2 (VW_2)))))))))))))) s.heap (kHw k ot aHW () ++ (kHi k (aHW 2) aHI (r3.1) ++ (kHS k (fun i => aHI (2 + i)) aHS (r3.2.1) ++ (kHK k (fun i => aHI (10 + i)) aHK (r3.2.2) ++ (kWd k (aHW 0) aWD (WD) ++ (kPl k (aWD 0) aPL (PL) ++ (kSc k (aWD 1) aSC (u.1) ++ (kSk k (aWD 2) aSK (u.2.1) ++ (kTr k (aHW 5) aTR (u.2.2.1) ++ (kSc k (aTR 0) aSC_2 (u.2.2.2.1) ++ (kVw k (aTR 1) aVW (u.2.2.2.2.1) ++ (kVw k (aHW 4) aVW_2 (u.2.2.2.2.2))))))))))))) H locs → lv_has ls 2 [] → W p l e (rmz 6 137) s m [.ref ot].toArray below meth c H locs 0 0 (MQ below (Qm D (some (.int q.1)) (kHw k ot aHW () ++ (kHi k (aHW 2) aHI (HI) ++ (kHS k (fun i => aHI (2 + i)) aHS (HS) ++ (kHK k (fun i => aHI (10 + i)) aHK (HK) ++ (kWd k (aHW 0) aWD (WD) ++ (kPl k (aWD 0) aPL (PL) ++ (kSc k (aWD 1) aSC (SC) ++ (kSk k (aWD 2) aSK (SK) ++ (kTr k (aHW 5) aTR (TR) ++ (kSc k (aTR 0) aSC_2 (SC_2) ++ (kVw k (aTR 1) aVW (VW) ++ (kVw k (aHW 4) aVW_2 (VW_2))))))))))))) (kHw k ot aHW () ++ (kHi k (aHW 2) aHI (q.2.1) ++ (kHS k (fun i => aHI (2 + i)) aHS (q.2.2.1) ++ (kHK k (fun i => aHI (10 + i)) aHK (q.2.2.2.1) ++ (kWd k (aHW 0) aWD (WD) ++ (kPl k (aWD 0) aPL (PL) ++ (kSc k (aWD 1) aSC (q.2.2.2.2.1) ++ (kSk k (aWD 2) aSK (q.2.2.2.2.2.1) ++ (kTr k (aHW 5) aTR (q.2.2.2.2.2.2.1) ++ (kSc k (aTR 0) aSC_2 (q.2.2.2.2.2.2.2.1) ++ (kVw k (aTR 1) aVW (q.2.2.2.2.2.2.2.2.1) ++ (kVw k (aHW 4) aVW_2 (q.2.2.2.2.2.2.2.2.2)))))))))))))) [.ref ot].toArray s 0 0 (wA (kHw k ot aHW () ++ (kHi k (aHW 2) aHI (HI) ++ (kHS k (fun i => aHI (2 + i)) aHS (HS) ++ (kHK k (fun i => aHI (10 + i)) aHK (HK) ++ (kWd k (aHW 0) aWD (WD) ++ (kPl k (aWD 0) aPL (PL) ++ (kSc k (aWD 1) aSC (SC) ++ (kSk k (aWD 2) aSK (SK) ++ (kTr k (aHW 5) aTR (TR) ++ (kSc k (aTR 0) aSC_2 (SC_2) ++ (kVw k (aTR 1) aVW (VW) ++ (kVw k (aHW 4) aVW_2 (VW_2))))))))))))))) (F0 m 57 ls []) := by
      intro uL4 H locs ls hex G hl
      rw [hex] at hfL4
      have hf := hfL4
      replace hf := sl_l hf
      refine lv_sipush (v := 200) hx hb dX9_watch_57 (by decide) ?_
      cases hf
      exact e_mi X G dX9_watch_60
    have KL4_1 : ∀ (u : Int32 × ScT × SkT × TrT × ScT × VwT × VwT) (H : Heap) (locs : List Loc) (ls : Array Slot), exL4 = Sum.inr (u) → Wo D (wA (kHw k ot aHW () ++ (kHi k (aHW 2) aHI (HI) ++ (kHS k (fun i => aHI (2 + i)) aHS (HS) ++ (kHK k (fun i => aHI (10 + i)) aHK (HK) ++ (kWd k (aHW 0) aWD (WD) ++ (kPl k (aWD 0) aPL (PL) ++ (kSc k (aWD 1) aSC (SC) ++ (kSk k (aWD 2) aSK (SK) ++ (kTr k (aHW 5) aTR (TR) ++ (kSc k (aTR 0) aSC_2 (SC_2) ++ (kVw k (aTR 1) aVW (VW) ++ (kVw k (aHW 4) aVW_2 (VW_2)))))))))))))) s.heap (kHw k ot aHW () ++ (kHi k (aHW 2) aHI (r3.1) ++ (kHS k (fun i => aHI (2 + i)) aHS (r3.2.1) ++ (kHK k (fun i => aHI (10 + i)) aHK (r3.2.2) ++ (kWd k (aHW 0) aWD (WD) ++ (kPl k (aWD 0) aPL (PL) ++ (kSc k (aWD 1) aSC (u.2.1) ++ (kSk k (aWD 2) aSK (u.2.2.1) ++ (kTr k (aHW 5) aTR (u.2.2.2.1) ++ (kSc k (aTR 0) aSC_2 (u.2.2.2.2.1) ++ (kVw k (aTR 1) aVW (u.2.2.2.2.2.1) ++ (kVw k (aHW 4) aVW_2 (u.2.2.2.2.2.2))))))))))))) H locs → lv_has ls 2 [(1, .int (u.1))] → W p l e (rmz 6 137) s m [.ref ot].toArray below meth c H locs 0 0 (MQ below (Qm D (some (.int q.1)) (kHw k ot aHW () ++ (kHi k (aHW 2) aHI (HI) ++ (kHS k (fun i => aHI (2 + i)) aHS (HS) ++ (kHK k (fun i => aHI (10 + i)) aHK (HK) ++ (kWd k (aHW 0) aWD (WD) ++ (kPl k (aWD 0) aPL (PL) ++ (kSc k (aWD 1) aSC (SC) ++ (kSk k (aWD 2) aSK (SK) ++ (kTr k (aHW 5) aTR (TR) ++ (kSc k (aTR 0) aSC_2 (SC_2) ++ (kVw k (aTR 1) aVW (VW) ++ (kVw k (aHW 4) aVW_2 (VW_2))))))))))))) (kHw k ot aHW () ++ (kHi k (aHW 2) aHI (q.2.1) ++ (kHS k (fun i => aHI (2 + i)) aHS (q.2.2.1) ++ (kHK k (fun i => aHI (10 + i)) aHK (q.2.2.2.1) ++ (kWd k (aHW 0) aWD (WD) ++ (kPl k (aWD 0) aPL (PL) ++ (kSc k (aWD 1) aSC (q.2.2.2.2.1) ++ (kSk k (aWD 2) aSK (q.2.2.2.2.2.1) ++ (kTr k (aHW 5) aTR (q.2.2.2.2.2.2.1) ++ (kSc k (aTR 0) aSC_2 (q.2.2.2.2.2.2.2.1) ++ (kVw k (aTR 1) aVW (q.2.2.2.2.2.2.2.2.1) ++ (kVw k (aHW 4) aVW_2 (q.2.2.2.2.2.2.2.2.2)))))))))))))) [.ref ot].toArray s 0 0 (wA (kHw k ot aHW () ++ (kHi k (aHW 2) aHI (HI) ++ (kHS k (fun i => aHI (2 + i)) aHS (HS) ++ (kHK k (fun i => aHI (10 + i)) aHK (HK) ++ (kWd k (aHW 0) aWD (WD) ++ (kPl k (aWD 0) aPL (PL) ++ (kSc k (aWD 1) aSC (SC) ++ (kSk k (aWD 2) aSK (SK) ++ (kTr k (aHW 5) aTR (TR) ++ (kSc k (aTR 0) aSC_2 (SC_2) ++ (kVw k (aTR 1) aVW (VW) ++ (kVw k (aHW 4) aVW_2 (VW_2))))))))))))))) (F0 m 49 ls []) := by
      intro uL4 H locs ls hex G hl
      rw [hex] at hfL4
      have hf := hfL4
      replace hf := sl_r hf
      refine lv_iload_n hx hb dX9_watch_49 rfl (lv_at hl 0 rfl) ?_
      cases hf
      exact e_mi X G dX9_watch_50
    have LL4 : ∀ (n : Nat) (stL4 : Int32 × ScT × SkT × TrT × ScT × VwT × VwT) (H : Heap) (locs : List Loc) (ls : Array Slot), Wo D (wA (kHw k ot aHW () ++ (kHi k (aHW 2) aHI (HI) ++ (kHS k (fun i => aHI (2 + i)) aHS (HS) ++ (kHK k (fun i => aHI (10 + i)) aHK (HK) ++ (kWd k (aHW 0) aWD (WD) ++ (kPl k (aWD 0) aPL (PL) ++ (kSc k (aWD 1) aSC (SC) ++ (kSk k (aWD 2) aSK (SK) ++ (kTr k (aHW 5) aTR (TR) ++ (kSc k (aTR 0) aSC_2 (SC_2) ++ (kVw k (aTR 1) aVW (VW) ++ (kVw k (aHW 4) aVW_2 (VW_2)))))))))))))) s.heap (kHw k ot aHW () ++ (kHi k (aHW 2) aHI (r3.1) ++ (kHS k (fun i => aHI (2 + i)) aHS (r3.2.1) ++ (kHK k (fun i => aHI (10 + i)) aHK (r3.2.2) ++ (kWd k (aHW 0) aWD (WD) ++ (kPl k (aWD 0) aPL (PL) ++ (kSc k (aWD 1) aSC (stL4.2.1) ++ (kSk k (aWD 2) aSK (stL4.2.2.1) ++ (kTr k (aHW 5) aTR (stL4.2.2.2.1) ++ (kSc k (aTR 0) aSC_2 (stL4.2.2.2.2.1) ++ (kVw k (aTR 1) aVW (stL4.2.2.2.2.2.1) ++ (kVw k (aHW 4) aVW_2 (stL4.2.2.2.2.2.2))))))))))))) H locs → lv_has ls 2 [(0, .ref ot), (1, .int (stL4.1))] → it (FX9_watch_35 WD PL) n stL4 = some exL4 → W p l e (rmz 6 137) s m [.ref ot].toArray below meth c H locs 0 0 (MQ below (Qm D (some (.int q.1)) (kHw k ot aHW () ++ (kHi k (aHW 2) aHI (HI) ++ (kHS k (fun i => aHI (2 + i)) aHS (HS) ++ (kHK k (fun i => aHI (10 + i)) aHK (HK) ++ (kWd k (aHW 0) aWD (WD) ++ (kPl k (aWD 0) aPL (PL) ++ (kSc k (aWD 1) aSC (SC) ++ (kSk k (aWD 2) aSK (SK) ++ (kTr k (aHW 5) aTR (TR) ++ (kSc k (aTR 0) aSC_2 (SC_2) ++ (kVw k (aTR 1) aVW (VW) ++ (kVw k (aHW 4) aVW_2 (VW_2))))))))))))) (kHw k ot aHW () ++ (kHi k (aHW 2) aHI (q.2.1) ++ (kHS k (fun i => aHI (2 + i)) aHS (q.2.2.1) ++ (kHK k (fun i => aHI (10 + i)) aHK (q.2.2.2.1) ++ (kWd k (aHW 0) aWD (WD) ++ (kPl k (aWD 0) aPL (PL) ++ (kSc k (aWD 1) aSC (q.2.2.2.2.1) ++ (kSk k (aWD 2) aSK (q.2.2.2.2.2.1) ++ (kTr k (aHW 5) aTR (q.2.2.2.2.2.2.1) ++ (kSc k (aTR 0) aSC_2 (q.2.2.2.2.2.2.2.1) ++ (kVw k (aTR 1) aVW (q.2.2.2.2.2.2.2.2.1) ++ (kVw k (aHW 4) aVW_2 (q.2.2.2.2.2.2.2.2.2)))))))))))))) [.ref ot].toArray s 0 0 (wA (kHw k ot aHW () ++ (kHi k (aHW 2) aHI (HI) ++ (kHS k (fun i => aHI (2 + i)) aHS (HS) ++ (kHK k (fun i => aHI (10 + i)) aHK (HK) ++ (kWd k (aHW 0) aWD (WD) ++ (kPl k (aWD 0) aPL (PL) ++ (kSc k (aWD 1) aSC (SC) ++ (kSk k (aWD 2) aSK (SK) ++ (kTr k (aHW 5) aTR (TR) ++ (kSc k (aTR 0) aSC_2 (SC_2) ++ (kVw k (aTR 1) aVW (VW) ++ (kVw k (aHW 4) aVW_2 (VW_2))))))))))))))) (F0 m 35 ls []) := by
      intro n
      induction n with
      | zero =>
        intro stL4 H locs ls G hl hit
        exact (it_zero hit).elim
      | succ n ih =>
        intro stL4 H locs ls G hl hit
        obtain ⟨oL4, hf, hoL4⟩ := it_bd hit
        unfold FX9_watch_35 at hf
        refine lv_iload_n hx hb dX9_watch_35 rfl (lv_at hl 1 rfl) ?_
        refine lv_sipush (v := 200) hx hb dX9_watch_36 (by decide) ?_
        refine lv_icmp_gt (tgt := 57) hx hb dX9_watch_39 (by decide) (fun c5 => ?_) (fun c5 => ?_)
        · replace hf := if_t hf c5
          cases hf
          exact KL4_0 (stL4.2.1, stL4.2.2.1, stL4.2.2.2.1, stL4.2.2.2.2.1, stL4.2.2.2.2.2.1, stL4.2.2.2.2.2.2) _ _ _ (it_out hoL4) G (lv_sub hl [] rfl)
        · replace hf := if_f hf c5
          refine lv_aload_n hx hb dX9_watch_42 rfl (lv_at hl 0 rfl) ?_
          obtain ⟨r6, hcr6, hf⟩ := bd_some hf
          refine p_N (st1 := [.int (r6.1)]) (wr := kHi k (aHW 2) aHI (r3.1) ++ (kHS k (fun i => aHI (2 + i)) aHS (r3.2.1) ++ (kHK k (fun i => aHI (10 + i)) aHK (r3.2.2)))) (ws' := kHw k ot aHW () ++ (kHi k (aHW 2) aHI (r3.1) ++ (kHS k (fun i => aHI (2 + i)) aHS (r3.2.1) ++ (kHK k (fun i => aHI (10 + i)) aHK (r3.2.2) ++ (kWd k (aHW 0) aWD (WD) ++ (kPl k (aWD 0) aPL (PL) ++ (kSc k (aWD 1) aSC (r6.2.1) ++ (kSk k (aWD 2) aSK (r6.2.2.1) ++ (kTr k (aHW 5) aTR (r6.2.2.2.1) ++ (kSc k (aTR 0) aSC_2 (r6.2.2.2.2.1) ++ (kVw k (aTR 1) aVW (r6.2.2.2.2.2.1) ++ (kVw k (aHW 4) aVW_2 (r6.2.2.2.2.2.2))))))))))))) (run_V (rest := []) X (ctX9_passTick hZ ot aHW aWD aPL aSC aSK aTR aSC_2 aVW aVW_2 hcr6) mk_X9_passTick ml_X9_120 ⟨(Nat.le_of_ble_eq_true rfl), (Nat.le_of_ble_eq_true rfl)⟩ G [0, 92, 93, 94, 95, 96, 97, 98, 99, 100, 101, 102, 103, 104, 105, 106, 107, 108, 109, 110, 111, 112, 113, 114, 115, 116, 117, 118, 119, 120, 121, 122, 123, 124, 125, 126, 127, 128] rfl rfl 0 rfl rfl rfl hl.1 rfl (Nat.le_of_ble_eq_true rfl) dX9_watch_43 ⟨Nat.zero_le _, Nat.zero_le _⟩) rfl G [0, 92, 93, 94, 95, 96, 97, 98, 99, 100, 101, 102, 103, 104, 105, 106, 107, 108, 109, 110, 111, 112, 113, 114, 115, 116, 117, 118, 119, 120, 121, 122, 123, 124, 125, 126, 127, 128] [1, 2, 3, 4, 5, 6, 7, 8, 9, 10, 11, 12, 13, 14, 15, 16, 17, 18, 19, 20, 21, 22, 23, 24, 25, 26, 27, 28, 29, 30, 31, 32, 33, 34, 35, 36, 37, 38, 39, 40, 41, 42, 43, 44, 45, 46, 47, 48, 49, 50, 51, 52, 53, 54, 55, 56, 57, 58, 59, 60, 61, 62, 63, 64, 65, 66, 67, 68, 69, 70, 71, 72, 73, 74, 75, 76, 77, 78, 79, 80, 81, 82, 83, 84, 85, 86, 87, 88, 89, 90, 91] 129 rfl rfl rfl rfl rfl (by decide +kernel) (by decide +kernel) rfl (fun H locs G => ?_)
          refine lv_if_le (tgt := 51) hx hb dX9_watch_46 (by decide) (fun c7 => ?_) (fun c7 => ?_)
          · replace hf := if_t hf c7
            obtain ⟨x8, ex8, hf⟩ := nm_some hf
            refine lv_iinc (v := x8) (lv' := [(1, .int x8), (0, .ref ot)]) hx hb dX9_watch_51 hl (k := 1) rfl (by subst ex8; rfl) (by decide) rfl (fun ls hl => ?_)
            refine lv_goto (tgt := 35) hx hb dX9_watch_54 (by decide) ?_
            cases hf
            exact ih (x8, r6.2.1, r6.2.2.1, r6.2.2.2.1, r6.2.2.2.2.1, r6.2.2.2.2.2.1, r6.2.2.2.2.2.2) _ _ _ G (lv_sub hl [1, 0] rfl) hoL4
          · replace hf := if_f hf c7
            cases hf
            exact KL4_1 (stL4.1, r6.2.1, r6.2.2.1, r6.2.2.2.1, r6.2.2.2.2.1, r6.2.2.2.2.2.1, r6.2.2.2.2.2.2) _ _ _ (it_out hoL4) G (lv_sub hl [1] rfl)
    exact LL4 nL4 ((1 : Int32), SC, SK, TR, SC_2, VW, VW_2) _ _ _ G (lv_sub hl [1, 0] rfl) hitL4
  · replace hf := if_f hf c2
    refine lv_iconst (v := -1) hx hb dX9_watch_20 (by decide) ?_
    cases hf
    exact e_mi X G dX9_watch_21
theorem mk_X9_watch : MV yX9_watch cX9_watch 2 (some .int) 0 := ⟨co_X9_watch, in_X9, im_X9_watch, se_X9_watch, by decide +kernel, by decide +kernel⟩
noncomputable def FX9_free (HI : HiT) (HS : Nat → ScT) (HK : Nat → SkT) (WD : WdT) (PL : PlT) (SC : ScT) (SK : SkT) (VW : VwT) (v1 : Int32) : Option (Bool × HiT × (Nat → ScT) × (Nat → SkT) × ScT × VwT) :=
  (FX9_lookNow WD PL SC VW).bind fun r1 =>
  (FX9_has (Vw_heldUp r1) v1).bind fun r2 =>
  if (bI r2) = 0 then (
    some (false, HI, HS, HK, SC, r1)
  ) else (
    (FX0_push HI HS HK WD SC SK).bind fun r4 =>
    (FX3_letGo SC PL v1).bind fun r5 =>
    some (true, r4.1, r4.2.1, r4.2.2, r5, r1)
  )
set_option maxHeartbeats 4000000 in
set_option maxRecDepth 100000 in
theorem ctX9_free {l : Launch} {D : va_G} {k : Nat → ClassId} {Z : ZT} (hZ : ZOK Z) (ot : Nat) (aHW : Nat → Nat) (aHI : Nat → Nat) (aHS : Nat → Nat → Nat) (aHK : Nat → Nat → Nat) (aWD : Nat → Nat) (aPL : Nat → Nat) (aSC : Nat → Nat) (aSK : Nat → Nat) (aVW : Nat → Nat) {HI : HiT} {HS : Nat → ScT} {HK : Nat → SkT} {WD : WdT} {PL : PlT} {SC : ScT} {SK : SkT} {VW : VwT} {v1 : Int32} {q : Bool × HiT × (Nat → ScT) × (Nat → SkT) × ScT × VwT} (hf : FX9_free HI HS HK WD PL SC SK VW v1 = some q) :
    CM l D k Z yX9_free cX9_free 2 (some .boolean) 5 112 [.ref ot, .int v1] (some (.int (bI q.1))) (kHw k ot aHW () ++ (kHi k (aHW 2) aHI (HI) ++ (kHS k (fun i => aHI (2 + i)) aHS (HS) ++ (kHK k (fun i => aHI (10 + i)) aHK (HK) ++ (kWd k (aHW 0) aWD (WD) ++ (kPl k (aWD 0) aPL (PL) ++ (kSc k (aWD 1) aSC (SC) ++ (kSk k (aWD 2) aSK (SK) ++ (kVw k (aHW 4) aVW (VW)))))))))) (kHw k ot aHW () ++ (kHi k (aHW 2) aHI (q.2.1) ++ (kHS k (fun i => aHI (2 + i)) aHS (q.2.2.1) ++ (kHK k (fun i => aHI (10 + i)) aHK (q.2.2.2.1) ++ (kWd k (aHW 0) aWD (WD) ++ (kPl k (aWD 0) aPL (PL) ++ (kSc k (aWD 1) aSC (q.2.2.2.2.1) ++ (kSk k (aWD 2) aSK (SK) ++ (kVw k (aHW 4) aVW (q.2.2.2.2.2)))))))))) := by
  refine CM.start hZ (by decide) (Nat.le_of_ble_eq_true rfl) ?_
  intro p e s m below meth c ls X hl G
  have hx := X.1
  have hb := X.2.1
  have hl : lv_has ls 2 [(0, .ref ot), (1, .int v1)] := hl
  unfold FX9_free at hf
  refine lv_aload_n hx hb dX9_free_0 rfl (lv_at hl 0 rfl) ?_
  obtain ⟨r1, hcr1, hf⟩ := bd_some hf
  refine p_N (st1 := []) (wr := kHi k (aHW 2) aHI (HI) ++ (kHS k (fun i => aHI (2 + i)) aHS (HS) ++ (kHK k (fun i => aHI (10 + i)) aHK (HK) ++ (kSk k (aWD 2) aSK (SK))))) (ws' := kHw k ot aHW () ++ (kHi k (aHW 2) aHI (HI) ++ (kHS k (fun i => aHI (2 + i)) aHS (HS) ++ (kHK k (fun i => aHI (10 + i)) aHK (HK) ++ (kWd k (aHW 0) aWD (WD) ++ (kPl k (aWD 0) aPL (PL) ++ (kSc k (aWD 1) aSC (SC) ++ (kSk k (aWD 2) aSK (SK) ++ (kVw k (aHW 4) aVW (r1)))))))))) (run_V (rest := []) X (ctX9_lookNow hZ ot aHW aWD aPL aSC aVW hcr1) mk_X9_lookNow ml_X9_128 ⟨(Nat.le_of_ble_eq_true rfl), (Nat.le_of_ble_eq_true rfl)⟩ G [0, 92, 93, 94, 95, 96, 97, 98, 99, 100, 101, 102, 103, 104, 105, 106, 107, 110, 111, 112, 113] rfl rfl 0 rfl rfl rfl hl.1 rfl (Nat.le_of_ble_eq_true rfl) dX9_free_1 ⟨Nat.zero_le _, Nat.zero_le _⟩) rfl G [0, 92, 93, 94, 95, 96, 97, 98, 99, 100, 101, 102, 103, 104, 105, 106, 107, 110, 111, 112, 113] [1, 2, 3, 4, 5, 6, 7, 8, 9, 10, 11, 12, 13, 14, 15, 16, 17, 18, 19, 20, 21, 22, 23, 24, 25, 26, 27, 28, 29, 30, 31, 32, 33, 34, 35, 36, 37, 38, 39, 40, 41, 42, 43, 44, 45, 46, 47, 48, 49, 50, 51, 52, 53, 54, 55, 56, 57, 58, 59, 60, 61, 62, 63, 64, 65, 66, 67, 68, 69, 70, 71, 72, 73, 74, 75, 76, 77, 78, 79, 80, 81, 82, 83, 84, 85, 86, 87, 88, 89, 90, 91, 108, 109] 114 rfl rfl rfl rfl rfl (by decide +kernel) (by decide +kernel) rfl (fun H locs G => ?_)
  refine lv_aload_n hx hb dX9_free_4 rfl (lv_at hl 0 rfl) ?_
  refine r_get X inw_X9 G 0 rfl rfl 4 (by decide) fl_X9_37 (v := .ref (aHW 4)) rfl dX9_free_5 ?_
  refine r_get X inw_X7 G 110 rfl rfl 2 (by decide) fl_X9_131 (v := .int (Vw_heldUp r1)) rfl dX9_free_8 ?_
  refine lv_iload_n hx hb dX9_free_11 rfl (lv_at hl 1 rfl) ?_
  obtain ⟨r2, hcr2, hf⟩ := bd_some hf
  refine p_R (st1 := [.int (bI r2)]) (run_S (rest := []) X (ctX9_has hZ hcr2) mk_X9_has ml_X9_134 ⟨(Nat.le_of_ble_eq_true rfl), (Nat.le_of_ble_eq_true rfl)⟩ G [] rfl rfl rfl hl.1 rfl (Nat.le_of_ble_eq_true rfl) dX9_free_12 ⟨Nat.zero_le _, Nat.zero_le _⟩) rfl ?_
  refine lv_if_ne (tgt := 20) hx hb dX9_free_15 (by decide) (fun c3 => ?_) (fun c3 => ?_)
  · replace hf := if_f hf c3
    refine lv_aload_n hx hb dX9_free_20 rfl (lv_at hl 0 rfl) ?_
    refine r_get X inw_X9 G 0 rfl rfl 2 (by decide) fl_X9_23 (v := .ref (aHW 2)) rfl dX9_free_21 ?_
    refine lv_aload_n hx hb dX9_free_24 rfl (lv_at hl 0 rfl) ?_
    refine r_get X inw_X9 G 0 rfl rfl 0 (by decide) fl_X9_10 (v := .ref (aHW 0)) rfl dX9_free_25 ?_
    obtain ⟨r4, hcr4, hf⟩ := bd_some hf
    refine p_N (st1 := []) (wr := kHw k ot aHW () ++ (kPl k (aWD 0) aPL (PL) ++ (kVw k (aHW 4) aVW (r1)))) (ws' := kHw k ot aHW () ++ (kHi k (aHW 2) aHI (r4.1) ++ (kHS k (fun i => aHI (2 + i)) aHS (r4.2.1) ++ (kHK k (fun i => aHI (10 + i)) aHK (r4.2.2) ++ (kWd k (aHW 0) aWD (WD) ++ (kPl k (aWD 0) aPL (PL) ++ (kSc k (aWD 1) aSC (SC) ++ (kSk k (aWD 2) aSK (SK) ++ (kVw k (aHW 4) aVW (r1)))))))))) (run_V (rest := []) X (ctX0_push hZ (aHW 2) (aHW 0) aHI aHS aHK aWD aSC aSK hcr4) mk_X0_push ml_X9_116 ⟨(Nat.le_of_ble_eq_true rfl), (Nat.le_of_ble_eq_true rfl)⟩ G [1, 2, 3, 4, 5, 6, 7, 8, 9, 10, 11, 12, 13, 14, 15, 16, 17, 18, 19, 20, 21, 22, 23, 24, 25, 26, 27, 28, 29, 30, 31, 32, 33, 34, 35, 36, 37, 38, 39, 40, 41, 42, 43, 44, 45, 46, 47, 48, 49, 50, 51, 52, 53, 54, 55, 56, 57, 58, 59, 60, 61, 62, 63, 64, 65, 66, 67, 68, 69, 70, 71, 72, 73, 74, 75, 76, 77, 78, 79, 80, 81, 82, 83, 84, 85, 86, 87, 88, 89, 90, 91, 92, 99, 100, 101, 102, 103, 104, 105, 106, 107, 108, 109] rfl rfl 1 rfl rfl rfl hl.1 rfl (Nat.le_of_ble_eq_true rfl) dX9_free_28 ⟨Nat.zero_le _, Nat.zero_le _⟩) rfl G [1, 2, 3, 4, 5, 6, 7, 8, 9, 10, 11, 12, 13, 14, 15, 16, 17, 18, 19, 20, 21, 22, 23, 24, 25, 26, 27, 28, 29, 30, 31, 32, 33, 34, 35, 36, 37, 38, 39, 40, 41, 42, 43, 44, 45, 46, 47, 48, 49, 50, 51, 52, 53, 54, 55, 56, 57, 58, 59, 60, 61, 62, 63, 64, 65, 66, 67, 68, 69, 70, 71, 72, 73, 74, 75, 76, 77, 78, 79, 80, 81, 82, 83, 84, 85, 86, 87, 88, 89, 90, 91, 92, 99, 100, 101, 102, 103, 104, 105, 106, 107, 108, 109] [0, 93, 94, 95, 96, 97, 98, 110, 111, 112, 113] 114 rfl rfl rfl rfl rfl (by decide +kernel) (by decide +kernel) rfl (fun H locs G => ?_)
    refine lv_aload_n hx hb dX9_free_31 rfl (lv_at hl 0 rfl) ?_
    refine r_get X inw_X9 G 0 rfl rfl 0 (by decide) fl_X9_10 (v := .ref (aHW 0)) rfl dX9_free_32 ?_
    refine r_get X inw_X8 G 92 rfl rfl 1 (by decide) fl_X9_97 (v := .ref (aWD 1)) rfl dX9_free_35 ?_
    refine lv_aload_n hx hb dX9_free_38 rfl (lv_at hl 0 rfl) ?_
    refine r_get X inw_X9 G 0 rfl rfl 0 (by decide) fl_X9_10 (v := .ref (aHW 0)) rfl dX9_free_39 ?_
    refine r_get X inw_X8 G 92 rfl rfl 0 (by decide) fl_X9_81 (v := .ref (aWD 0)) rfl dX9_free_42 ?_
    refine lv_iload_n hx hb dX9_free_45 rfl (lv_at hl 1 rfl) ?_
    obtain ⟨r5, hcr5, hf⟩ := bd_some hf
    refine p_N (st1 := []) (wr := kHw k ot aHW () ++ (kHi k (aHW 2) aHI (r4.1) ++ (kHS k (fun i => aHI (2 + i)) aHS (r4.2.1) ++ (kHK k (fun i => aHI (10 + i)) aHK (r4.2.2) ++ (kWd k (aHW 0) aWD (WD) ++ (kSk k (aWD 2) aSK (SK) ++ (kVw k (aHW 4) aVW (r1)))))))) (ws' := kHw k ot aHW () ++ (kHi k (aHW 2) aHI (r4.1) ++ (kHS k (fun i => aHI (2 + i)) aHS (r4.2.1) ++ (kHK k (fun i => aHI (10 + i)) aHK (r4.2.2) ++ (kWd k (aHW 0) aWD (WD) ++ (kPl k (aWD 0) aPL (PL) ++ (kSc k (aWD 1) aSC (r5) ++ (kSk k (aWD 2) aSK (SK) ++ (kVw k (aHW 4) aVW (r1)))))))))) (run_V (rest := []) X (ctX3_letGo hZ (aWD 1) (aWD 0) aSC aPL hcr5) mk_X3_letGo ml_X9_138 ⟨(Nat.le_of_ble_eq_true rfl), (Nat.le_of_ble_eq_true rfl)⟩ G [99, 100, 101, 102, 103, 104, 105, 106, 107, 93, 94, 95, 96, 97, 98] rfl rfl 99 rfl rfl rfl hl.1 rfl (Nat.le_of_ble_eq_true rfl) dX9_free_46 ⟨Nat.zero_le _, Nat.zero_le _⟩) rfl G [99, 100, 101, 102, 103, 104, 105, 106, 107, 93, 94, 95, 96, 97, 98] [0, 1, 2, 3, 4, 5, 6, 7, 8, 9, 10, 11, 12, 13, 14, 15, 16, 17, 18, 19, 20, 21, 22, 23, 24, 25, 26, 27, 28, 29, 30, 31, 32, 33, 34, 35, 36, 37, 38, 39, 40, 41, 42, 43, 44, 45, 46, 47, 48, 49, 50, 51, 52, 53, 54, 55, 56, 57, 58, 59, 60, 61, 62, 63, 64, 65, 66, 67, 68, 69, 70, 71, 72, 73, 74, 75, 76, 77, 78, 79, 80, 81, 82, 83, 84, 85, 86, 87, 88, 89, 90, 91, 92, 108, 109, 110, 111, 112, 113] 114 rfl rfl rfl rfl rfl (by decide +kernel) (by decide +kernel) rfl (fun H locs G => ?_)
    refine lv_iconst (v := 1) hx hb dX9_free_49 (by decide) ?_
    cases hf
    exact e_mz _ rfl X G dX9_free_50
  · replace hf := if_t hf c3
    refine lv_iconst (v := 0) hx hb dX9_free_18 (by decide) ?_
    cases hf
    exact e_mz _ rfl X G dX9_free_19
theorem mk_X9_free : MV yX9_free cX9_free 2 (some .boolean) 1 := ⟨co_X9_free, in_X9, im_X9_free, se_X9_free, by decide +kernel, by decide +kernel⟩
noncomputable def FX9_within_j50 (HI : HiT) (HS : Nat → ScT) (HK : Nat → SkT) (WD : WdT) (SC : ScT) (SK : SkT) (v1 : Int32) (v2 : Int32) (vJ1 : Int32) (vJ2 : Int32) (vJ3 : Int32) : Option (Bool × HiT × (Nat → ScT) × (Nat → SkT) × ScT) :=
  if v2 < vJ1 then (
    some (false, HI, HS, HK, SC)
  ) else (
    if vJ2 < v2 then (
      some (false, HI, HS, HK, SC)
    ) else (
      if v2 = vJ3 then (
        some (false, HI, HS, HK, SC)
      ) else (
        (FX0_push HI HS HK WD SC SK).bind fun r7 =>
        if v1 = 0 then (
          nm (sSc_window SC v2) fun SC9 =>
          some (true, r7.1, r7.2.1, r7.2.2, SC9)
        ) else (
          nm (sSc_grace SC v2) fun SC10 =>
          some (true, r7.1, r7.2.1, r7.2.2, SC10)
        )
      )
    )
  )
noncomputable def FX9_within_j21 (HI : HiT) (HS : Nat → ScT) (HK : Nat → SkT) (WD : WdT) (SC : ScT) (SK : SkT) (v1 : Int32) (v2 : Int32) (vJ1 : Int32) (vJ2 : Int32) : Option (Bool × HiT × (Nat → ScT) × (Nat → SkT) × ScT) :=
  if v1 = 0 then (
    FX9_within_j50 HI HS HK WD SC SK v1 v2 vJ1 vJ2 (Sc_window SC)
  ) else (
    FX9_within_j50 HI HS HK WD SC SK v1 v2 vJ1 vJ2 (Sc_grace SC)
  )
noncomputable def FX9_within_j9 (HI : HiT) (HS : Nat → ScT) (HK : Nat → SkT) (WD : WdT) (SC : ScT) (SK : SkT) (v1 : Int32) (v2 : Int32) (vJ1 : Int32) : Option (Bool × HiT × (Nat → ScT) × (Nat → SkT) × ScT) :=
  if v1 = 0 then (
    FX9_within_j21 HI HS HK WD SC SK v1 v2 vJ1 (50 : Int32)
  ) else (
    FX9_within_j21 HI HS HK WD SC SK v1 v2 vJ1 (50 : Int32)
  )
noncomputable def FX9_within (HI : HiT) (HS : Nat → ScT) (HK : Nat → SkT) (WD : WdT) (SC : ScT) (SK : SkT) (v1 : Int32) (v2 : Int32) : Option (Bool × HiT × (Nat → ScT) × (Nat → SkT) × ScT) :=
  if v1 = 0 then (
    FX9_within_j9 HI HS HK WD SC SK v1 v2 (1 : Int32)
  ) else (
    FX9_within_j9 HI HS HK WD SC SK v1 v2 (0 : Int32)
  )
set_option maxHeartbeats 4000000 in
set_option maxRecDepth 100000 in
theorem ctX9_within {l : Launch} {D : va_G} {k : Nat → ClassId} {Z : ZT} (hZ : ZOK Z) (ot : Nat) (aHW : Nat → Nat) (aHI : Nat → Nat) (aHS : Nat → Nat → Nat) (aHK : Nat → Nat → Nat) (aWD : Nat → Nat) (aSC : Nat → Nat) (aSK : Nat → Nat) {HI : HiT} {HS : Nat → ScT} {HK : Nat → SkT} {WD : WdT} {SC : ScT} {SK : SkT} {v1 : Int32} {v2 : Int32} {q : Bool × HiT × (Nat → ScT) × (Nat → SkT) × ScT} (hf : FX9_within HI HS HK WD SC SK v1 v2 = some q) :
    CM l D k Z yX9_within cX9_within 6 (some .boolean) 4 103 [.ref ot, .int v1, .int v2] (some (.int (bI q.1))) (kHw k ot aHW () ++ (kHi k (aHW 2) aHI (HI) ++ (kHS k (fun i => aHI (2 + i)) aHS (HS) ++ (kHK k (fun i => aHI (10 + i)) aHK (HK) ++ (kWd k (aHW 0) aWD (WD) ++ (kSc k (aWD 1) aSC (SC) ++ (kSk k (aWD 2) aSK (SK)))))))) (kHw k ot aHW () ++ (kHi k (aHW 2) aHI (q.2.1) ++ (kHS k (fun i => aHI (2 + i)) aHS (q.2.2.1) ++ (kHK k (fun i => aHI (10 + i)) aHK (q.2.2.2.1) ++ (kWd k (aHW 0) aWD (WD) ++ (kSc k (aWD 1) aSC (q.2.2.2.2) ++ (kSk k (aWD 2) aSK (SK)))))))) := by
  refine CM.start hZ (by decide) (Nat.le_of_ble_eq_true rfl) ?_
  intro p e s m below meth c ls X hl G
  have hx := X.1
  have hb := X.2.1
  have hl : lv_has ls 6 [(0, .ref ot), (1, .int v1), (2, .int v2)] := hl
  unfold FX9_within at hf
  refine lv_iload_n hx hb dX9_within_0 rfl (lv_at hl 1 rfl) ?_
  have JJ1 : ∀ (vJ1 : Int32) (H : Heap) (locs : List Loc) (ls : Array Slot), Wo D (wA (kHw k ot aHW () ++ (kHi k (aHW 2) aHI (HI) ++ (kHS k (fun i => aHI (2 + i)) aHS (HS) ++ (kHK k (fun i => aHI (10 + i)) aHK (HK) ++ (kWd k (aHW 0) aWD (WD) ++ (kSc k (aWD 1) aSC (SC) ++ (kSk k (aWD 2) aSK (SK))))))))) s.heap (kHw k ot aHW () ++ (kHi k (aHW 2) aHI (HI) ++ (kHS k (fun i => aHI (2 + i)) aHS (HS) ++ (kHK k (fun i => aHI (10 + i)) aHK (HK) ++ (kWd k (aHW 0) aWD (WD) ++ (kSc k (aWD 1) aSC (SC) ++ (kSk k (aWD 2) aSK (SK)))))))) H locs → lv_has ls 6 [(0, .ref ot), (1, .int v1), (2, .int v2)] → FX9_within_j9 HI HS HK WD SC SK v1 v2 vJ1 = some q → W p l e (rmz 4 103) s m [.ref ot, .int v1, .int v2].toArray below meth c H locs 0 0 (MQ below (Qm D (some (.int (bI q.1))) (kHw k ot aHW () ++ (kHi k (aHW 2) aHI (HI) ++ (kHS k (fun i => aHI (2 + i)) aHS (HS) ++ (kHK k (fun i => aHI (10 + i)) aHK (HK) ++ (kWd k (aHW 0) aWD (WD) ++ (kSc k (aWD 1) aSC (SC) ++ (kSk k (aWD 2) aSK (SK)))))))) (kHw k ot aHW () ++ (kHi k (aHW 2) aHI (q.2.1) ++ (kHS k (fun i => aHI (2 + i)) aHS (q.2.2.1) ++ (kHK k (fun i => aHI (10 + i)) aHK (q.2.2.2.1) ++ (kWd k (aHW 0) aWD (WD) ++ (kSc k (aWD 1) aSC (q.2.2.2.2) ++ (kSk k (aWD 2) aSK (SK))))))))) [.ref ot, .int v1, .int v2].toArray s 0 0 (wA (kHw k ot aHW () ++ (kHi k (aHW 2) aHI (HI) ++ (kHS k (fun i => aHI (2 + i)) aHS (HS) ++ (kHK k (fun i => aHI (10 + i)) aHK (HK) ++ (kWd k (aHW 0) aWD (WD) ++ (kSc k (aWD 1) aSC (SC) ++ (kSk k (aWD 2) aSK (SK)))))))))) (F0 m 9 ls [.int vJ1]) := by
    intro vJ1 H locs ls G hl hf
    unfold FX9_within_j9 at hf
    refine lv_istore_n (lv' := [(3, .int vJ1), (0, .ref ot), (1, .int v1), (2, .int v2)]) hx hb dX9_within_9 rfl hl (by decide) rfl (fun ls hl => ?_)
    refine lv_iload_n hx hb dX9_within_10 rfl (lv_at hl 2 rfl) ?_
    have JJ2 : ∀ (vJ2 : Int32) (H : Heap) (locs : List Loc) (ls : Array Slot), Wo D (wA (kHw k ot aHW () ++ (kHi k (aHW 2) aHI (HI) ++ (kHS k (fun i => aHI (2 + i)) aHS (HS) ++ (kHK k (fun i => aHI (10 + i)) aHK (HK) ++ (kWd k (aHW 0) aWD (WD) ++ (kSc k (aWD 1) aSC (SC) ++ (kSk k (aWD 2) aSK (SK))))))))) s.heap (kHw k ot aHW () ++ (kHi k (aHW 2) aHI (HI) ++ (kHS k (fun i => aHI (2 + i)) aHS (HS) ++ (kHK k (fun i => aHI (10 + i)) aHK (HK) ++ (kWd k (aHW 0) aWD (WD) ++ (kSc k (aWD 1) aSC (SC) ++ (kSk k (aWD 2) aSK (SK)))))))) H locs → lv_has ls 6 [(0, .ref ot), (1, .int v1), (2, .int v2), (3, .int vJ1)] → FX9_within_j21 HI HS HK WD SC SK v1 v2 vJ1 vJ2 = some q → W p l e (rmz 4 103) s m [.ref ot, .int v1, .int v2].toArray below meth c H locs 0 0 (MQ below (Qm D (some (.int (bI q.1))) (kHw k ot aHW () ++ (kHi k (aHW 2) aHI (HI) ++ (kHS k (fun i => aHI (2 + i)) aHS (HS) ++ (kHK k (fun i => aHI (10 + i)) aHK (HK) ++ (kWd k (aHW 0) aWD (WD) ++ (kSc k (aWD 1) aSC (SC) ++ (kSk k (aWD 2) aSK (SK)))))))) (kHw k ot aHW () ++ (kHi k (aHW 2) aHI (q.2.1) ++ (kHS k (fun i => aHI (2 + i)) aHS (q.2.2.1) ++ (kHK k (fun i => aHI (10 + i)) aHK (q.2.2.2.1) ++ (kWd k (aHW 0) aWD (WD) ++ (kSc k (aWD 1) aSC (q.2.2.2.2) ++ (kSk k (aWD 2) aSK (SK))))))))) [.ref ot, .int v1, .int v2].toArray s 0 0 (wA (kHw k ot aHW () ++ (kHi k (aHW 2) aHI (HI) ++ (kHS k (fun i => aHI (2 + i)) aHS (HS) ++ (kHK k (fun i => aHI (10 + i)) aHK (HK) ++ (kWd k (aHW 0) aWD (WD) ++ (kSc k (aWD 1) aSC (SC) ++ (kSk k (aWD 2) aSK (SK)))))))))) (F0 m 21 ls [.int vJ2]) := by
      intro vJ2 H locs ls G hl hf
      unfold FX9_within_j21 at hf
      refine lv_istore (lv' := [(4, .int vJ2), (0, .ref ot), (1, .int v1), (2, .int v2), (3, .int vJ1)]) hx hb dX9_within_21 hl (by decide) rfl (fun ls hl => ?_)
      refine lv_iload_n hx hb dX9_within_23 rfl (lv_at hl 2 rfl) ?_
      have JJ3 : ∀ (vJ3 : Int32) (H : Heap) (locs : List Loc) (ls : Array Slot), Wo D (wA (kHw k ot aHW () ++ (kHi k (aHW 2) aHI (HI) ++ (kHS k (fun i => aHI (2 + i)) aHS (HS) ++ (kHK k (fun i => aHI (10 + i)) aHK (HK) ++ (kWd k (aHW 0) aWD (WD) ++ (kSc k (aWD 1) aSC (SC) ++ (kSk k (aWD 2) aSK (SK))))))))) s.heap (kHw k ot aHW () ++ (kHi k (aHW 2) aHI (HI) ++ (kHS k (fun i => aHI (2 + i)) aHS (HS) ++ (kHK k (fun i => aHI (10 + i)) aHK (HK) ++ (kWd k (aHW 0) aWD (WD) ++ (kSc k (aWD 1) aSC (SC) ++ (kSk k (aWD 2) aSK (SK)))))))) H locs → lv_has ls 6 [(0, .ref ot), (1, .int v1), (2, .int v2), (3, .int vJ1), (4, .int vJ2)] → FX9_within_j50 HI HS HK WD SC SK v1 v2 vJ1 vJ2 vJ3 = some q → W p l e (rmz 4 103) s m [.ref ot, .int v1, .int v2].toArray below meth c H locs 0 0 (MQ below (Qm D (some (.int (bI q.1))) (kHw k ot aHW () ++ (kHi k (aHW 2) aHI (HI) ++ (kHS k (fun i => aHI (2 + i)) aHS (HS) ++ (kHK k (fun i => aHI (10 + i)) aHK (HK) ++ (kWd k (aHW 0) aWD (WD) ++ (kSc k (aWD 1) aSC (SC) ++ (kSk k (aWD 2) aSK (SK)))))))) (kHw k ot aHW () ++ (kHi k (aHW 2) aHI (q.2.1) ++ (kHS k (fun i => aHI (2 + i)) aHS (q.2.2.1) ++ (kHK k (fun i => aHI (10 + i)) aHK (q.2.2.2.1) ++ (kWd k (aHW 0) aWD (WD) ++ (kSc k (aWD 1) aSC (q.2.2.2.2) ++ (kSk k (aWD 2) aSK (SK))))))))) [.ref ot, .int v1, .int v2].toArray s 0 0 (wA (kHw k ot aHW () ++ (kHi k (aHW 2) aHI (HI) ++ (kHS k (fun i => aHI (2 + i)) aHS (HS) ++ (kHK k (fun i => aHI (10 + i)) aHK (HK) ++ (kWd k (aHW 0) aWD (WD) ++ (kSc k (aWD 1) aSC (SC) ++ (kSk k (aWD 2) aSK (SK)))))))))) (F0 m 50 ls [.int vJ3]) := by
        intro vJ3 H locs ls G hl hf
        unfold FX9_within_j50 at hf
        refine lv_istore (lv' := [(5, .int vJ3), (0, .ref ot), (1, .int v1), (2, .int v2), (3, .int vJ1), (4, .int vJ2)]) hx hb dX9_within_50 hl (by decide) rfl (fun ls hl => ?_)
        refine lv_iload_n hx hb dX9_within_52 rfl (lv_at hl 3 rfl) ?_
        refine lv_iload_n hx hb dX9_within_53 rfl (lv_at hl 4 rfl) ?_
        refine lv_icmp_lt (tgt := 69) hx hb dX9_within_54 (by decide) (fun c4 => ?_) (fun c4 => ?_)
        · replace hf := if_t hf c4
          refine lv_iconst (v := 0) hx hb dX9_within_69 (by decide) ?_
          cases hf
          exact e_mz _ rfl X G dX9_within_70
        · replace hf := if_f hf c4
          refine lv_iload_n hx hb dX9_within_57 rfl (lv_at hl 3 rfl) ?_
          refine lv_iload hx hb dX9_within_58 (lv_at hl 5 rfl) ?_
          refine lv_icmp_gt (tgt := 69) hx hb dX9_within_60 (by decide) (fun c5 => ?_) (fun c5 => ?_)
          · replace hf := if_t hf c5
            refine lv_iconst (v := 0) hx hb dX9_within_69 (by decide) ?_
            cases hf
            exact e_mz _ rfl X G dX9_within_70
          · replace hf := if_f hf c5
            refine lv_iload_n hx hb dX9_within_63 rfl (lv_at hl 3 rfl) ?_
            refine lv_iload hx hb dX9_within_64 (lv_at hl 0 rfl) ?_
            refine lv_icmp_ne (tgt := 71) hx hb dX9_within_66 (by decide) (fun c6 => ?_) (fun c6 => ?_)
            · replace hf := if_f hf c6
              refine lv_aload_n hx hb dX9_within_71 rfl (lv_at hl 1 rfl) ?_
              refine r_get X inw_X9 G 0 rfl rfl 2 (by decide) fl_X9_23 (v := .ref (aHW 2)) rfl dX9_within_72 ?_
              refine lv_aload_n hx hb dX9_within_75 rfl (lv_at hl 1 rfl) ?_
              refine r_get X inw_X9 G 0 rfl rfl 0 (by decide) fl_X9_10 (v := .ref (aHW 0)) rfl dX9_within_76 ?_
              obtain ⟨r7, hcr7, hf⟩ := bd_some hf
              refine p_N (st1 := []) (wr := kHw k ot aHW ()) (ws' := kHw k ot aHW () ++ (kHi k (aHW 2) aHI (r7.1) ++ (kHS k (fun i => aHI (2 + i)) aHS (r7.2.1) ++ (kHK k (fun i => aHI (10 + i)) aHK (r7.2.2) ++ (kWd k (aHW 0) aWD (WD) ++ (kSc k (aWD 1) aSC (SC) ++ (kSk k (aWD 2) aSK (SK)))))))) (run_V (rest := []) X (ctX0_push hZ (aHW 2) (aHW 0) aHI aHS aHK aWD aSC aSK hcr7) mk_X0_push ml_X9_116 ⟨(Nat.le_of_ble_eq_true rfl), (Nat.le_of_ble_eq_true rfl)⟩ G [1, 2, 3, 4, 5, 6, 7, 8, 9, 10, 11, 12, 13, 14, 15, 16, 17, 18, 19, 20, 21, 22, 23, 24, 25, 26, 27, 28, 29, 30, 31, 32, 33, 34, 35, 36, 37, 38, 39, 40, 41, 42, 43, 44, 45, 46, 47, 48, 49, 50, 51, 52, 53, 54, 55, 56, 57, 58, 59, 60, 61, 62, 63, 64, 65, 66, 67, 68, 69, 70, 71, 72, 73, 74, 75, 76, 77, 78, 79, 80, 81, 82, 83, 84, 85, 86, 87, 88, 89, 90, 91, 92, 93, 94, 95, 96, 97, 98, 99, 100, 101, 102, 103] rfl rfl 1 rfl rfl rfl hl.1 rfl (Nat.le_of_ble_eq_true rfl) dX9_within_79 ⟨Nat.zero_le _, Nat.zero_le _⟩) rfl G [1, 2, 3, 4, 5, 6, 7, 8, 9, 10, 11, 12, 13, 14, 15, 16, 17, 18, 19, 20, 21, 22, 23, 24, 25, 26, 27, 28, 29, 30, 31, 32, 33, 34, 35, 36, 37, 38, 39, 40, 41, 42, 43, 44, 45, 46, 47, 48, 49, 50, 51, 52, 53, 54, 55, 56, 57, 58, 59, 60, 61, 62, 63, 64, 65, 66, 67, 68, 69, 70, 71, 72, 73, 74, 75, 76, 77, 78, 79, 80, 81, 82, 83, 84, 85, 86, 87, 88, 89, 90, 91, 92, 93, 94, 95, 96, 97, 98, 99, 100, 101, 102, 103] [0] 104 rfl rfl rfl rfl rfl (by decide +kernel) (by decide +kernel) rfl (fun H locs G => ?_)
              refine lv_iload_n hx hb dX9_within_82 rfl (lv_at hl 2 rfl) ?_
              refine lv_if_eq (tgt := 100) hx hb dX9_within_83 (by decide) (fun c8 => ?_) (fun c8 => ?_)
              · replace hf := if_t hf c8
                refine lv_aload_n hx hb dX9_within_100 rfl (lv_at hl 1 rfl) ?_
                refine r_get X inw_X9 G 0 rfl rfl 0 (by decide) fl_X9_10 (v := .ref (aHW 0)) rfl dX9_within_101 ?_
                refine r_get X inw_X8 G 92 rfl rfl 1 (by decide) fl_X9_97 (v := .ref (aWD 1)) rfl dX9_within_104 ?_
                refine lv_iload_n hx hb dX9_within_107 rfl (lv_at hl 3 rfl) ?_
                obtain ⟨SC9, eSC9, hf⟩ := nm_some hf
                refine r_put X inw_X3 tyX3 tyX3_ok nmX3 G 93 rfl rfl 1 (by decide) fl_X9_145 rfl rfl rfl (Nat.le_of_ble_eq_true rfl) (ws' := kHw k ot aHW () ++ (kHi k (aHW 2) aHI (r7.1) ++ (kHS k (fun i => aHI (2 + i)) aHS (r7.2.1) ++ (kHK k (fun i => aHI (10 + i)) aHK (r7.2.2) ++ (kWd k (aHW 0) aWD (WD) ++ (kSc k (aWD 1) aSC (SC9) ++ (kSk k (aWD 2) aSK (SK)))))))) (by subst eSC9; rfl) dX9_within_108 (fun H locs G => ?_)
                refine lv_iconst (v := 1) hx hb dX9_within_111 (by decide) ?_
                cases hf
                exact e_mz _ rfl X G dX9_within_112
              · replace hf := if_f hf c8
                refine lv_aload_n hx hb dX9_within_86 rfl (lv_at hl 1 rfl) ?_
                refine r_get X inw_X9 G 0 rfl rfl 0 (by decide) fl_X9_10 (v := .ref (aHW 0)) rfl dX9_within_87 ?_
                refine r_get X inw_X8 G 92 rfl rfl 1 (by decide) fl_X9_97 (v := .ref (aWD 1)) rfl dX9_within_90 ?_
                refine lv_iload_n hx hb dX9_within_93 rfl (lv_at hl 3 rfl) ?_
                obtain ⟨SC10, eSC10, hf⟩ := nm_some hf
                refine r_put X inw_X3 tyX3 tyX3_ok nmX3 G 93 rfl rfl 2 (by decide) fl_X9_142 rfl rfl rfl (Nat.le_of_ble_eq_true rfl) (ws' := kHw k ot aHW () ++ (kHi k (aHW 2) aHI (r7.1) ++ (kHS k (fun i => aHI (2 + i)) aHS (r7.2.1) ++ (kHK k (fun i => aHI (10 + i)) aHK (r7.2.2) ++ (kWd k (aHW 0) aWD (WD) ++ (kSc k (aWD 1) aSC (SC10) ++ (kSk k (aWD 2) aSK (SK)))))))) (by subst eSC10; rfl) dX9_within_94 (fun H locs G => ?_)
                refine lv_goto (tgt := 111) hx hb dX9_within_97 (by decide) ?_
                refine lv_iconst (v := 1) hx hb dX9_within_111 (by decide) ?_
                cases hf
                exact e_mz _ rfl X G dX9_within_112
            · replace hf := if_t hf c6
              refine lv_iconst (v := 0) hx hb dX9_within_69 (by decide) ?_
              cases hf
              exact e_mz _ rfl X G dX9_within_70
      refine lv_if_eq (tgt := 40) hx hb dX9_within_24 (by decide) (fun c11 => ?_) (fun c11 => ?_)
      · replace hf := if_t hf c11
        refine lv_aload_n hx hb dX9_within_40 rfl (lv_at hl 1 rfl) ?_
        refine r_get X inw_X9 G 0 rfl rfl 0 (by decide) fl_X9_10 (v := .ref (aHW 0)) rfl dX9_within_41 ?_
        refine r_get X inw_X8 G 92 rfl rfl 1 (by decide) fl_X9_97 (v := .ref (aWD 1)) rfl dX9_within_44 ?_
        refine r_get X inw_X3 G 93 rfl rfl 1 (by decide) fl_X9_145 (v := .int (Sc_window SC)) rfl dX9_within_47 ?_
        exact JJ3 (Sc_window SC) _ _ _ G (lv_sub hl [1, 2, 3, 4, 0] rfl) hf
      · replace hf := if_f hf c11
        refine lv_aload_n hx hb dX9_within_27 rfl (lv_at hl 1 rfl) ?_
        refine r_get X inw_X9 G 0 rfl rfl 0 (by decide) fl_X9_10 (v := .ref (aHW 0)) rfl dX9_within_28 ?_
        refine r_get X inw_X8 G 92 rfl rfl 1 (by decide) fl_X9_97 (v := .ref (aWD 1)) rfl dX9_within_31 ?_
        refine r_get X inw_X3 G 93 rfl rfl 2 (by decide) fl_X9_142 (v := .int (Sc_grace SC)) rfl dX9_within_34 ?_
        refine lv_goto (tgt := 50) hx hb dX9_within_37 (by decide) ?_
        exact JJ3 (Sc_grace SC) _ _ _ G (lv_sub hl [1, 2, 3, 4, 0] rfl) hf
    refine lv_if_eq (tgt := 19) hx hb dX9_within_11 (by decide) (fun c12 => ?_) (fun c12 => ?_)
    · replace hf := if_t hf c12
      refine lv_bipush (v := 50) hx hb dX9_within_19 (by decide) ?_
      exact JJ2 (50 : Int32) _ _ _ G (lv_sub hl [1, 2, 3, 0] rfl) hf
    · replace hf := if_f hf c12
      refine lv_bipush (v := 50) hx hb dX9_within_14 (by decide) ?_
      refine lv_goto (tgt := 21) hx hb dX9_within_16 (by decide) ?_
      exact JJ2 (50 : Int32) _ _ _ G (lv_sub hl [1, 2, 3, 0] rfl) hf
  refine lv_if_eq (tgt := 8) hx hb dX9_within_1 (by decide) (fun c13 => ?_) (fun c13 => ?_)
  · replace hf := if_t hf c13
    refine lv_iconst (v := 1) hx hb dX9_within_8 (by decide) ?_
    exact JJ1 (1 : Int32) _ _ _ G (lv_sub hl [0, 1, 2] rfl) hf
  · replace hf := if_f hf c13
    refine lv_iconst (v := 0) hx hb dX9_within_4 (by decide) ?_
    refine lv_goto (tgt := 9) hx hb dX9_within_5 (by decide) ?_
    exact JJ1 (0 : Int32) _ _ _ G (lv_sub hl [0, 1, 2] rfl) hf
theorem mk_X9_within : MV yX9_within cX9_within 6 (some .boolean) 2 := ⟨co_X9_within, in_X9, im_X9_within, se_X9_within, by decide +kernel, by decide +kernel⟩
noncomputable def FX9_undo (HI : HiT) (HS : Nat → ScT) (HK : Nat → SkT) (WD : WdT) (SC : ScT) (SK : SkT) : Option (Int32 × HiT × ScT × SkT) :=
  if (Hi_many HI) = 0 then (
    some ((-1 : Int32), HI, SC, SK)
  ) else (
    (FX0_pop HI HS HK WD SC SK).bind fun r2 =>
    some (Hi_many r2.1, r2.1, r2.2.1, r2.2.2)
  )
set_option maxHeartbeats 4000000 in
set_option maxRecDepth 100000 in
theorem ctX9_undo {l : Launch} {D : va_G} {k : Nat → ClassId} {Z : ZT} (hZ : ZOK Z) (ot : Nat) (aHW : Nat → Nat) (aHI : Nat → Nat) (aHS : Nat → Nat → Nat) (aHK : Nat → Nat → Nat) (aWD : Nat → Nat) (aSC : Nat → Nat) (aSK : Nat → Nat) {HI : HiT} {HS : Nat → ScT} {HK : Nat → SkT} {WD : WdT} {SC : ScT} {SK : SkT} {q : Int32 × HiT × ScT × SkT} (hf : FX9_undo HI HS HK WD SC SK = some q) :
    CM l D k Z yX9_undo cX9_undo 1 (some .int) 4 103 [.ref ot] (some (.int q.1)) (kHw k ot aHW () ++ (kHi k (aHW 2) aHI (HI) ++ (kHS k (fun i => aHI (2 + i)) aHS (HS) ++ (kHK k (fun i => aHI (10 + i)) aHK (HK) ++ (kWd k (aHW 0) aWD (WD) ++ (kSc k (aWD 1) aSC (SC) ++ (kSk k (aWD 2) aSK (SK)))))))) (kHw k ot aHW () ++ (kHi k (aHW 2) aHI (q.2.1) ++ (kHS k (fun i => aHI (2 + i)) aHS (HS) ++ (kHK k (fun i => aHI (10 + i)) aHK (HK) ++ (kWd k (aHW 0) aWD (WD) ++ (kSc k (aWD 1) aSC (q.2.2.1) ++ (kSk k (aWD 2) aSK (q.2.2.2)))))))) := by
  refine CM.start hZ (by decide) (Nat.le_of_ble_eq_true rfl) ?_
  intro p e s m below meth c ls X hl G
  have hx := X.1
  have hb := X.2.1
  have hl : lv_has ls 1 [(0, .ref ot)] := hl
  unfold FX9_undo at hf
  refine lv_aload_n hx hb dX9_undo_0 rfl (lv_at hl 0 rfl) ?_
  refine r_get X inw_X9 G 0 rfl rfl 2 (by decide) fl_X9_23 (v := .ref (aHW 2)) rfl dX9_undo_1 ?_
  refine r_get X inw_X0 G 1 rfl rfl 3 (by decide) fl_X9_148 (v := .int (Hi_many HI)) rfl dX9_undo_4 ?_
  refine lv_if_ne (tgt := 12) hx hb dX9_undo_7 (by decide) (fun c1 => ?_) (fun c1 => ?_)
  · replace hf := if_f hf c1
    refine lv_aload_n hx hb dX9_undo_12 rfl (lv_at hl 0 rfl) ?_
    refine r_get X inw_X9 G 0 rfl rfl 2 (by decide) fl_X9_23 (v := .ref (aHW 2)) rfl dX9_undo_13 ?_
    refine lv_aload_n hx hb dX9_undo_16 rfl (lv_at hl 0 rfl) ?_
    refine r_get X inw_X9 G 0 rfl rfl 0 (by decide) fl_X9_10 (v := .ref (aHW 0)) rfl dX9_undo_17 ?_
    obtain ⟨r2, hcr2, hf⟩ := bd_some hf
    refine p_N (st1 := []) (wr := kHw k ot aHW ()) (ws' := kHw k ot aHW () ++ (kHi k (aHW 2) aHI (r2.1) ++ (kHS k (fun i => aHI (2 + i)) aHS (HS) ++ (kHK k (fun i => aHI (10 + i)) aHK (HK) ++ (kWd k (aHW 0) aWD (WD) ++ (kSc k (aWD 1) aSC (r2.2.1) ++ (kSk k (aWD 2) aSK (r2.2.2)))))))) (run_V (rest := []) X (ctX0_pop hZ (aHW 2) (aHW 0) aHI aHS aHK aWD aSC aSK hcr2) mk_X0_pop ml_X9_151 ⟨(Nat.le_of_ble_eq_true rfl), (Nat.le_of_ble_eq_true rfl)⟩ G [1, 2, 3, 4, 5, 6, 7, 8, 9, 10, 11, 12, 13, 14, 15, 16, 17, 18, 19, 20, 21, 22, 23, 24, 25, 26, 27, 28, 29, 30, 31, 32, 33, 34, 35, 36, 37, 38, 39, 40, 41, 42, 43, 44, 45, 46, 47, 48, 49, 50, 51, 52, 53, 54, 55, 56, 57, 58, 59, 60, 61, 62, 63, 64, 65, 66, 67, 68, 69, 70, 71, 72, 73, 74, 75, 76, 77, 78, 79, 80, 81, 82, 83, 84, 85, 86, 87, 88, 89, 90, 91, 92, 93, 94, 95, 96, 97, 98, 99, 100, 101, 102, 103] rfl rfl 1 rfl rfl rfl hl.1 rfl (Nat.le_of_ble_eq_true rfl) dX9_undo_20 ⟨Nat.zero_le _, Nat.zero_le _⟩) rfl G [1, 2, 3, 4, 5, 6, 7, 8, 9, 10, 11, 12, 13, 14, 15, 16, 17, 18, 19, 20, 21, 22, 23, 24, 25, 26, 27, 28, 29, 30, 31, 32, 33, 34, 35, 36, 37, 38, 39, 40, 41, 42, 43, 44, 45, 46, 47, 48, 49, 50, 51, 52, 53, 54, 55, 56, 57, 58, 59, 60, 61, 62, 63, 64, 65, 66, 67, 68, 69, 70, 71, 72, 73, 74, 75, 76, 77, 78, 79, 80, 81, 82, 83, 84, 85, 86, 87, 88, 89, 90, 91, 92, 93, 94, 95, 96, 97, 98, 99, 100, 101, 102, 103] [0] 104 rfl rfl rfl rfl rfl (by decide +kernel) (by decide +kernel) rfl (fun H locs G => ?_)
    refine lv_aload_n hx hb dX9_undo_23 rfl (lv_at hl 0 rfl) ?_
    refine r_get X inw_X9 G 0 rfl rfl 2 (by decide) fl_X9_23 (v := .ref (aHW 2)) rfl dX9_undo_24 ?_
    refine r_get X inw_X0 G 1 rfl rfl 3 (by decide) fl_X9_148 (v := .int (Hi_many r2.1)) rfl dX9_undo_27 ?_
    cases hf
    exact e_mi X G dX9_undo_30
  · replace hf := if_t hf c1
    refine lv_iconst (v := -1) hx hb dX9_undo_10 (by decide) ?_
    cases hf
    exact e_mi X G dX9_undo_11
theorem mk_X9_undo : MV yX9_undo cX9_undo 1 (some .int) 0 := ⟨co_X9_undo, in_X9, im_X9_undo, se_X9_undo, by decide +kernel, by decide +kernel⟩
noncomputable def FX8_take (WD : WdT) (PL : PlT) (SC : ScT) (SK : SkT) (TP : TpT) (WD_2 : WdT) (PL_2 : PlT) (SC_2 : ScT) (SK_2 : SkT) (TP_2 : TpT) : Option (WdT × PlT × ScT × SkT × TpT) :=
  (FX1_take PL PL_2).bind fun r1 =>
  (FX3_take SC SC_2).bind fun r2 =>
  (FX4_take SK SK_2).bind fun r3 =>
  (FX5_take TP TP_2).bind fun r4 =>
  nm (sWd_fault WD (Wd_fault WD_2)) fun WD5 =>
  nm (sWd_spot WD5 (Wd_spot WD_2)) fun WD6 =>
  some (WD6, r1, r2, r3, r4)
set_option maxHeartbeats 4000000 in
set_option maxRecDepth 100000 in
theorem ctX8_take {l : Launch} {D : va_G} {k : Nat → ClassId} {Z : ZT} (hZ : ZOK Z) (ot : Nat) (o1 : Nat) (aWD : Nat → Nat) (aPL : Nat → Nat) (aSC : Nat → Nat) (aSK : Nat → Nat) (aTP : Nat → Nat) (aWD_2 : Nat → Nat) (aPL_2 : Nat → Nat) (aSC_2 : Nat → Nat) (aSK_2 : Nat → Nat) (aTP_2 : Nat → Nat) {WD : WdT} {PL : PlT} {SC : ScT} {SK : SkT} {TP : TpT} {WD_2 : WdT} {PL_2 : PlT} {SC_2 : ScT} {SK_2 : SkT} {TP_2 : TpT} {q : WdT × PlT × ScT × SkT × TpT} (hf : FX8_take WD PL SC SK TP WD_2 PL_2 SC_2 SK_2 TP_2 = some q) :
    CM l D k Z yX8_take cX8_take 2 none 3 82 [.ref ot, .ref o1] none (kWd k ot aWD (WD) ++ (kPl k (aWD 0) aPL (PL) ++ (kSc k (aWD 1) aSC (SC) ++ (kSk k (aWD 2) aSK (SK) ++ (kTp k (aWD 3) aTP (TP) ++ (kWd k o1 aWD_2 (WD_2) ++ (kPl k (aWD_2 0) aPL_2 (PL_2) ++ (kSc k (aWD_2 1) aSC_2 (SC_2) ++ (kSk k (aWD_2 2) aSK_2 (SK_2) ++ (kTp k (aWD_2 3) aTP_2 (TP_2))))))))))) (kWd k ot aWD (q.1) ++ (kPl k (aWD 0) aPL (q.2.1) ++ (kSc k (aWD 1) aSC (q.2.2.1) ++ (kSk k (aWD 2) aSK (q.2.2.2.1) ++ (kTp k (aWD 3) aTP (q.2.2.2.2) ++ (kWd k o1 aWD_2 (WD_2) ++ (kPl k (aWD_2 0) aPL_2 (PL_2) ++ (kSc k (aWD_2 1) aSC_2 (SC_2) ++ (kSk k (aWD_2 2) aSK_2 (SK_2) ++ (kTp k (aWD_2 3) aTP_2 (TP_2))))))))))) := by
  refine CM.start hZ (by decide) (Nat.le_of_ble_eq_true rfl) ?_
  intro p e s m below meth c ls X hl G
  have hx := X.1
  have hb := X.2.1
  have hl : lv_has ls 2 [(0, .ref ot), (1, .ref o1)] := hl
  unfold FX8_take at hf
  refine lv_aload_n hx hb dX8_take_0 rfl (lv_at hl 0 rfl) ?_
  refine r_get X inw_X8 G 0 rfl rfl 0 (by decide) fl_X8_12 (v := .ref (aWD 0)) rfl dX8_take_1 ?_
  refine lv_aload_n hx hb dX8_take_4 rfl (lv_at hl 1 rfl) ?_
  refine r_get X inw_X8 G 20 rfl rfl 0 (by decide) fl_X8_12 (v := .ref (aWD_2 0)) rfl dX8_take_5 ?_
  obtain ⟨r1, hcr1, hf⟩ := bd_some hf
  refine p_N (st1 := []) (wr := kWd k ot aWD (WD) ++ (kSc k (aWD 1) aSC (SC) ++ (kSk k (aWD 2) aSK (SK) ++ (kTp k (aWD 3) aTP (TP) ++ (kWd k o1 aWD_2 (WD_2) ++ (kSc k (aWD_2 1) aSC_2 (SC_2) ++ (kSk k (aWD_2 2) aSK_2 (SK_2) ++ (kTp k (aWD_2 3) aTP_2 (TP_2))))))))) (ws' := kWd k ot aWD (WD) ++ (kPl k (aWD 0) aPL (r1) ++ (kSc k (aWD 1) aSC (SC) ++ (kSk k (aWD 2) aSK (SK) ++ (kTp k (aWD 3) aTP (TP) ++ (kWd k o1 aWD_2 (WD_2) ++ (kPl k (aWD_2 0) aPL_2 (PL_2) ++ (kSc k (aWD_2 1) aSC_2 (SC_2) ++ (kSk k (aWD_2 2) aSK_2 (SK_2) ++ (kTp k (aWD_2 3) aTP_2 (TP_2))))))))))) (run_V (rest := []) X (ctX1_take hZ (aWD 0) (aWD_2 0) aPL aPL_2 hcr1) mk_X1_take ml_X8_46 ⟨(Nat.le_of_ble_eq_true rfl), (Nat.le_of_ble_eq_true rfl)⟩ G [1, 2, 3, 4, 5, 6, 21, 22, 23, 24, 25, 26] rfl rfl 1 rfl rfl rfl hl.1 rfl (Nat.le_of_ble_eq_true rfl) dX8_take_8 ⟨Nat.zero_le _, Nat.zero_le _⟩) rfl G [1, 2, 3, 4, 5, 6, 21, 22, 23, 24, 25, 26] [0, 7, 8, 9, 10, 11, 12, 13, 14, 15, 16, 17, 18, 19, 20, 27, 28, 29, 30, 31, 32, 33, 34, 35, 36, 37, 38, 39] 40 rfl rfl rfl rfl rfl (by decide +kernel) (by decide +kernel) rfl (fun H locs G => ?_)
  refine lv_aload_n hx hb dX8_take_11 rfl (lv_at hl 0 rfl) ?_
  refine r_get X inw_X8 G 0 rfl rfl 1 (by decide) fl_X8_21 (v := .ref (aWD 1)) rfl dX8_take_12 ?_
  refine lv_aload_n hx hb dX8_take_15 rfl (lv_at hl 1 rfl) ?_
  refine r_get X inw_X8 G 20 rfl rfl 1 (by decide) fl_X8_21 (v := .ref (aWD_2 1)) rfl dX8_take_16 ?_
  obtain ⟨r2, hcr2, hf⟩ := bd_some hf
  refine p_N (st1 := []) (wr := kWd k ot aWD (WD) ++ (kPl k (aWD 0) aPL (r1) ++ (kSk k (aWD 2) aSK (SK) ++ (kTp k (aWD 3) aTP (TP) ++ (kWd k o1 aWD_2 (WD_2) ++ (kPl k (aWD_2 0) aPL_2 (PL_2) ++ (kSk k (aWD_2 2) aSK_2 (SK_2) ++ (kTp k (aWD_2 3) aTP_2 (TP_2))))))))) (ws' := kWd k ot aWD (WD) ++ (kPl k (aWD 0) aPL (r1) ++ (kSc k (aWD 1) aSC (r2) ++ (kSk k (aWD 2) aSK (SK) ++ (kTp k (aWD 3) aTP (TP) ++ (kWd k o1 aWD_2 (WD_2) ++ (kPl k (aWD_2 0) aPL_2 (PL_2) ++ (kSc k (aWD_2 1) aSC_2 (SC_2) ++ (kSk k (aWD_2 2) aSK_2 (SK_2) ++ (kTp k (aWD_2 3) aTP_2 (TP_2))))))))))) (run_V (rest := []) X (ctX3_take hZ (aWD 1) (aWD_2 1) aSC aSC_2 hcr2) mk_X3_take ml_X8_50 ⟨(Nat.le_of_ble_eq_true rfl), (Nat.le_of_ble_eq_true rfl)⟩ G [7, 8, 9, 10, 11, 12, 13, 14, 15, 27, 28, 29, 30, 31, 32, 33, 34, 35] rfl rfl 7 rfl rfl rfl hl.1 rfl (Nat.le_of_ble_eq_true rfl) dX8_take_19 ⟨Nat.zero_le _, Nat.zero_le _⟩) rfl G [7, 8, 9, 10, 11, 12, 13, 14, 15, 27, 28, 29, 30, 31, 32, 33, 34, 35] [0, 1, 2, 3, 4, 5, 6, 16, 17, 18, 19, 20, 21, 22, 23, 24, 25, 26, 36, 37, 38, 39] 40 rfl rfl rfl rfl rfl (by decide +kernel) (by decide +kernel) rfl (fun H locs G => ?_)
  refine lv_aload_n hx hb dX8_take_22 rfl (lv_at hl 0 rfl) ?_
  refine r_get X inw_X8 G 0 rfl rfl 2 (by decide) fl_X8_28 (v := .ref (aWD 2)) rfl dX8_take_23 ?_
  refine lv_aload_n hx hb dX8_take_26 rfl (lv_at hl 1 rfl) ?_
  refine r_get X inw_X8 G 20 rfl rfl 2 (by decide) fl_X8_28 (v := .ref (aWD_2 2)) rfl dX8_take_27 ?_
  obtain ⟨r3, hcr3, hf⟩ := bd_some hf
  refine p_N (st1 := []) (wr := kWd k ot aWD (WD) ++ (kPl k (aWD 0) aPL (r1) ++ (kSc k (aWD 1) aSC (r2) ++ (kTp k (aWD 3) aTP (TP) ++ (kWd k o1 aWD_2 (WD_2) ++ (kPl k (aWD_2 0) aPL_2 (PL_2) ++ (kSc k (aWD_2 1) aSC_2 (SC_2) ++ (kTp k (aWD_2 3) aTP_2 (TP_2))))))))) (ws' := kWd k ot aWD (WD) ++ (kPl k (aWD 0) aPL (r1) ++ (kSc k (aWD 1) aSC (r2) ++ (kSk k (aWD 2) aSK (r3) ++ (kTp k (aWD 3) aTP (TP) ++ (kWd k o1 aWD_2 (WD_2) ++ (kPl k (aWD_2 0) aPL_2 (PL_2) ++ (kSc k (aWD_2 1) aSC_2 (SC_2) ++ (kSk k (aWD_2 2) aSK_2 (SK_2) ++ (kTp k (aWD_2 3) aTP_2 (TP_2))))))))))) (run_V (rest := []) X (ctX4_take hZ (aWD 2) (aWD_2 2) aSK aSK_2 hcr3) mk_X4_take ml_X8_53 ⟨(Nat.le_of_ble_eq_true rfl), (Nat.le_of_ble_eq_true rfl)⟩ G [16, 17, 36, 37] rfl rfl 16 rfl rfl rfl hl.1 rfl (Nat.le_of_ble_eq_true rfl) dX8_take_30 ⟨Nat.zero_le _, Nat.zero_le _⟩) rfl G [16, 17, 36, 37] [0, 1, 2, 3, 4, 5, 6, 7, 8, 9, 10, 11, 12, 13, 14, 15, 18, 19, 20, 21, 22, 23, 24, 25, 26, 27, 28, 29, 30, 31, 32, 33, 34, 35, 38, 39] 40 rfl rfl rfl rfl rfl (by decide +kernel) (by decide +kernel) rfl (fun H locs G => ?_)
  refine lv_aload_n hx hb dX8_take_33 rfl (lv_at hl 0 rfl) ?_
  refine r_get X inw_X8 G 0 rfl rfl 3 (by decide) fl_X8_35 (v := .ref (aWD 3)) rfl dX8_take_34 ?_
  refine lv_aload_n hx hb dX8_take_37 rfl (lv_at hl 1 rfl) ?_
  refine r_get X inw_X8 G 20 rfl rfl 3 (by decide) fl_X8_35 (v := .ref (aWD_2 3)) rfl dX8_take_38 ?_
  obtain ⟨r4, hcr4, hf⟩ := bd_some hf
  refine p_N (st1 := []) (wr := kWd k ot aWD (WD) ++ (kPl k (aWD 0) aPL (r1) ++ (kSc k (aWD 1) aSC (r2) ++ (kSk k (aWD 2) aSK (r3) ++ (kWd k o1 aWD_2 (WD_2) ++ (kPl k (aWD_2 0) aPL_2 (PL_2) ++ (kSc k (aWD_2 1) aSC_2 (SC_2) ++ (kSk k (aWD_2 2) aSK_2 (SK_2))))))))) (ws' := kWd k ot aWD (WD) ++ (kPl k (aWD 0) aPL (r1) ++ (kSc k (aWD 1) aSC (r2) ++ (kSk k (aWD 2) aSK (r3) ++ (kTp k (aWD 3) aTP (r4) ++ (kWd k o1 aWD_2 (WD_2) ++ (kPl k (aWD_2 0) aPL_2 (PL_2) ++ (kSc k (aWD_2 1) aSC_2 (SC_2) ++ (kSk k (aWD_2 2) aSK_2 (SK_2) ++ (kTp k (aWD_2 3) aTP_2 (TP_2))))))))))) (run_V (rest := []) X (ctX5_take hZ (aWD 3) (aWD_2 3) aTP aTP_2 hcr4) mk_X5_take ml_X8_56 ⟨(Nat.le_of_ble_eq_true rfl), (Nat.le_of_ble_eq_true rfl)⟩ G [18, 19, 38, 39] rfl rfl 18 rfl rfl rfl hl.1 rfl (Nat.le_of_ble_eq_true rfl) dX8_take_41 ⟨Nat.zero_le _, Nat.zero_le _⟩) rfl G [18, 19, 38, 39] [0, 1, 2, 3, 4, 5, 6, 7, 8, 9, 10, 11, 12, 13, 14, 15, 16, 17, 20, 21, 22, 23, 24, 25, 26, 27, 28, 29, 30, 31, 32, 33, 34, 35, 36, 37] 40 rfl rfl rfl rfl rfl (by decide +kernel) (by decide +kernel) rfl (fun H locs G => ?_)
  refine lv_aload_n hx hb dX8_take_44 rfl (lv_at hl 0 rfl) ?_
  refine lv_aload_n hx hb dX8_take_45 rfl (lv_at hl 1 rfl) ?_
  refine r_get X inw_X8 G 20 rfl rfl 4 (by decide) fl_X8_39 (v := .int (Wd_fault WD_2)) rfl dX8_take_46 ?_
  obtain ⟨WD5, eWD5, hf⟩ := nm_some hf
  refine r_put X inw_X8 tyX8 tyX8_ok nmX8 G 0 rfl rfl 4 (by decide) fl_X8_39 rfl rfl rfl (Nat.le_of_ble_eq_true rfl) (ws' := kWd k ot aWD (WD5) ++ (kPl k (aWD 0) aPL (r1) ++ (kSc k (aWD 1) aSC (r2) ++ (kSk k (aWD 2) aSK (r3) ++ (kTp k (aWD 3) aTP (r4) ++ (kWd k o1 aWD_2 (WD_2) ++ (kPl k (aWD_2 0) aPL_2 (PL_2) ++ (kSc k (aWD_2 1) aSC_2 (SC_2) ++ (kSk k (aWD_2 2) aSK_2 (SK_2) ++ (kTp k (aWD_2 3) aTP_2 (TP_2))))))))))) (by subst eWD5; rfl) dX8_take_49 (fun H locs G => ?_)
  refine lv_aload_n hx hb dX8_take_52 rfl (lv_at hl 0 rfl) ?_
  refine lv_aload_n hx hb dX8_take_53 rfl (lv_at hl 1 rfl) ?_
  refine r_get X inw_X8 G 20 rfl rfl 5 (by decide) fl_X8_43 (v := .int (Wd_spot WD_2)) rfl dX8_take_54 ?_
  obtain ⟨WD6, eWD6, hf⟩ := nm_some hf
  refine r_put X inw_X8 tyX8 tyX8_ok nmX8 G 0 rfl rfl 5 (by decide) fl_X8_43 rfl rfl rfl (Nat.le_of_ble_eq_true rfl) (ws' := kWd k ot aWD (WD6) ++ (kPl k (aWD 0) aPL (r1) ++ (kSc k (aWD 1) aSC (r2) ++ (kSk k (aWD 2) aSK (r3) ++ (kTp k (aWD 3) aTP (r4) ++ (kWd k o1 aWD_2 (WD_2) ++ (kPl k (aWD_2 0) aPL_2 (PL_2) ++ (kSc k (aWD_2 1) aSC_2 (SC_2) ++ (kSk k (aWD_2 2) aSK_2 (SK_2) ++ (kTp k (aWD_2 3) aTP_2 (TP_2))))))))))) (by subst eWD6; rfl) dX8_take_57 (fun H locs G => ?_)
  cases hf
  exact e_mv X G dX8_take_60
theorem mk_X8_take : MV yX8_take cX8_take 2 none 1 := ⟨co_X8_take, in_X8, im_X8_take, se_X8_take, by decide +kernel, by decide +kernel⟩
