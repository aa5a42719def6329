/-! ===== what can be undone ===== -/
theorem ktake_eq {A B : SkT} (hA : Nz 150 (Sk_rows A)) (hB : Nz 150 (Sk_rows B)) : FX4_take A B = some B := by
  unfold FX4_take
  simp only [nm]
  refine bd_of (copy_nz (by decide) hB hA) ?_
  rfl
theorem vup_eq {α : Type} {f : Nat → α} {i j : Nat} {v : α} (h : j = i) : va_up f i v j = v := if_pos h
theorem vup_ne {α : Type} {f : Nat → α} {i j : Nat} {v : α} (h : j ≠ i) : va_up f i v j = f j := if_neg h
section HIST
variable {W : Nat} {ln : Nat → Nat} {PL : PlT} {SC : ScT} {SK : SkT} {HI : HiT} {HS : Nat → ScT} {HK : Nat → SkT} {MO : MoT} {WD : WdT}
theorem c_push {nx mn : Nat} (h1 : nx < 8) (h2 : mn ≤ 8) (h3 : Hi_next HI = nI nx) (h4 : Hi_many HI = nI mn) (h7 : ∀ i, i < 8 → NormS (HS i) ∧ Nz 150 (Sk_rows (HK i))) (hN : NormS SC) (hK : Nz 150 (Sk_rows SK)) : FX0_push HI HS HK WD SC SK = some ((nI ((nx + 1) % 8), nI (if mn < 8 then mn + 1 else 8)), va_up HS nx SC, va_up HK nx SK) := by
  obtain ⟨a, b⟩ := HI
  have e1 : a = nI nx := h3
  have e2 : b = nI mn := h4
  subst e1 e2
  unfold FX0_push
  dsimp only [nm, Hi_next, Hi_many, sHi_next, sHi_many]
  rw [ix_nI h1 (by decide), nI_clamp (by omega), take_eq (h7 nx h1).1 hN, Option.bind_some, ix_nI h1 (by decide), ktake_eq (h7 nx h1).2 hK, Option.bind_some, nI_1, nI_1, show (8 : Int32) = nI 8 from rfl, pk_rem (by omega) (by decide) (by decide)]
  by_cases c : mn < 8
  · rw [if_pos c, if_neg (nI_nlt (by omega) (by decide))]
  · rw [if_neg c, if_pos (nI_lt (by omega) (by omega))]
theorem s_keeps (hP : PlanOK PL W ln) (hS : Seg W ln PL SC SK (Mo_all MO) 0) (hH : RelH W ln PL HI HS HK (Mo_all MO) (Mo_undos MO)) : ∃ HI' HS' HK' all' un', FX0_push HI HS HK WD SC SK = some (HI', HS', HK') ∧ FX10_keeps MO = some (sMo_undos (sMo_all MO all') un') ∧ RelH W ln PL HI' HS' HK' all' un' ∧ ∀ j, (j < 1896 ∨ 5688 ≤ j) → all' j = Mo_all MO j := by
  obtain ⟨nx, mn, h1, h2, h3, h4, h5, h6, h7⟩ := hH
  have hN : NormS SC := hS.2.2.1.2.2.2.2.2.2.2.2.2.2.2
  have hK : Nz 150 (Sk_rows SK) := hS.2.2.2.1.2.2
  have hq : ∀ i, i < 8 → NormS (va_up HS nx SC i) ∧ Nz 150 (Sk_rows (va_up HK nx SK i)) := fun i hi => by
    by_cases e : i = nx
    · rw [vup_eq e, vup_eq e]
      exact ⟨hN, hK⟩
    · rw [vup_ne e, vup_ne e]
      exact h7 i hi
  by_cases c : mn < 8
  · refine ⟨_, _, _, cpA (Mo_all MO) 0 (1896 + 474 * mn) 474, nI (mn + 1), c_push h1 h2 h3 h4 h7 hN hK, ?_, ⟨(nx + 1) % 8, mn + 1, by omega, by omega, rfl, ?_, rfl, ?_, hq⟩, fun j hj => if_neg (by omega)⟩
    · unfold FX10_keeps FX10_keeps_j32
      rw [h5, if_neg (show ¬ nI mn = (8 : Int32) from fun z => by have := nI_inj (a := mn) (b := 8) (by omega) (by decide) z; omega), show (1896 : Int32) + 474 * nI mn = nI (1896 + 474 * mn) from by rw [show (474 : Int32) = nI 474 from rfl, pk_mul, show (1896 : Int32) = nI 1896 from rfl, nI_add], show (0 : Int32) = nI 0 from rfl, show (474 : Int32) = nI 474 from rfl, M_copies (by omega) (by omega) (by omega)]
      simp only [Option.bind_some, nm]
      show some (sMo_undos (sMo_all MO (cpA (Mo_all MO) 0 (1896 + 474 * mn) 474)) (Mo_undos MO + 1)) = _
      rw [h5, nI_1]
    · show nI (if mn < 8 then mn + 1 else 8) = nI (mn + 1)
      rw [if_pos c]
    · intro u hu
      by_cases e : u = mn
      · subst e
        rw [show ((nx + 1) % 8 + 8 - (u + 1) + u) % 8 = nx by omega, vup_eq rfl, vup_eq rfl]
        refine hS.mv hP (fun i hi => ?_)
        rw [show cpA (Mo_all MO) 0 (1896 + 474 * u) 474 (1896 + 474 * u + i) = Mo_all MO (0 + (1896 + 474 * u + i - (1896 + 474 * u))) from if_pos (by omega), show 1896 + 474 * u + i - (1896 + 474 * u) = i by omega]
      · rw [show ((nx + 1) % 8 + 8 - (mn + 1) + u) % 8 = (nx + 8 - mn + u) % 8 by omega, vup_ne (by omega), vup_ne (by omega)]
        exact (h6 u (by omega)).mv hP (fun i hi => if_neg (by omega))
  · have e8 : mn = 8 := by omega
    subst e8
    refine ⟨_, _, _, cpA (cpA (Mo_all MO) 2370 1896 3318) 0 5214 474, nI 8, c_push h1 h2 h3 h4 h7 hN hK, ?_, ⟨(nx + 1) % 8, 8, by omega, by omega, rfl, rfl, rfl, ?_, hq⟩, fun j hj => (if_neg (by omega)).trans (if_neg (by omega))⟩
    · unfold FX10_keeps
      rw [h5, if_pos (show nI 8 = (8 : Int32) from rfl), show (2370 : Int32) = nI 2370 from rfl, show (1896 : Int32) = nI 1896 from rfl, show (3318 : Int32) = nI 3318 from rfl, M_copies (by omega) (by omega) (by omega)]
      simp only [Option.bind_some, nm]
      show FX10_keeps_j32 (sMo_undos (sMo_all MO (cpA (Mo_all MO) 2370 1896 3318)) (Mo_undos MO - 1)) = _
      rw [h5, show nI 8 - 1 = nI 7 from nI_pred 7]
      unfold FX10_keeps_j32
      show (FX10_copies (sMo_undos (sMo_all MO (cpA (Mo_all MO) 2370 1896 3318)) (nI 7)) (nI 0) (nI 5214) (nI 474)).bind _ = _
      rw [M_copies (by omega) (by omega) (by omega)]
      rfl
    · intro u hu
      by_cases e : u = 7
      · subst e
        rw [show ((nx + 1) % 8 + 8 - 8 + 7) % 8 = nx by omega, vup_eq rfl, vup_eq rfl]
        refine hS.mv hP (fun i hi => ?_)
        rw [show cpA (cpA (Mo_all MO) 2370 1896 3318) 0 5214 474 (1896 + 474 * 7 + i) = cpA (Mo_all MO) 2370 1896 3318 (0 + (1896 + 474 * 7 + i - 5214)) from if_pos (by omega), show 0 + (1896 + 474 * 7 + i - 5214) = 0 + i by omega]
        exact if_neg (by omega)
      · rw [show ((nx + 1) % 8 + 8 - 8 + u) % 8 = (nx + 8 - 8 + (u + 1)) % 8 by omega, vup_ne (by omega), vup_ne (by omega)]
        refine (h6 (u + 1) (by omega)).mv hP (fun i hi => ?_)
        rw [show cpA (cpA (Mo_all MO) 2370 1896 3318) 0 5214 474 (1896 + 474 * u + i) = cpA (Mo_all MO) 2370 1896 3318 (1896 + 474 * u + i) from if_neg (by omega), show cpA (Mo_all MO) 2370 1896 3318 (1896 + 474 * u + i) = Mo_all MO (2370 + (1896 + 474 * u + i - 1896)) from if_pos (by omega), show 2370 + (1896 + 474 * u + i - 1896) = 1896 + 474 * (u + 1) + i by omega]
end HIST
/-! ===== ticks ===== -/
section TICKS
variable {PL : PlT} {W : Nat} {ln : Nat → Nat} {SC : ScT} {MO : MoT} {WD : WdT}
theorem tick_both {SK : SkT} {TR : TrT} {ST : ScT} {VT VW : VwT} (hR : ReachOK PL W ln) (h : Sim True PL W ln SC MO 0) (hK : SegK SK (Mo_all MO) 0) (hNt : NormS ST) : ∃ n SC' SK' TR' ST' VT' VW' all', FX9_passTick WD PL SC SK TR ST VT VW = some (nI n, SC', SK', TR', ST', VT', VW') ∧ FX10_ticksOnce MO = some (sMo_all MO all') ∧ n ≤ 8 ∧ Sim True PL W ln SC' (sMo_all MO all') 0 ∧ SegK SK' all' 0 ∧ OutA 0 (Mo_all MO) all' ∧ NormS ST' ∧ Sk_total SK' = Sk_total SK + nI n := by
  have h8 := h.W8
  obtain ⟨SC1, all', p1, p2, p3, p4, p5, p6, p7⟩ := s_tick h (by omega) hK
  obtain ⟨TR', ST', VT', VW', c1, c2⟩ := c_passTick (WD := WD) (SK := SK) (TR := TR) (VWt := VT) (VW := VW) h.1 hR p1 p2 p3 hNt hK.1
  refine ⟨_, _, _, _, _, _, _, _, c1, p4, ?_, p6, p7, p5, c2, sk_total W⟩
  have := pc_le (P := fsB PL W ln SC1) W
  omega
theorem ticks_loop {SK : SkT} {TR : TrT} {ST : ScT} {VT VW : VwT} (hR : ReachOK PL W ln) (h : Sim True PL W ln SC MO 0) (hK : SegK SK (Mo_all MO) 0) (hNt : NormS ST) {n : Nat} (hn : n < 2 ^ 31) : ∃ s SC' SK' TR' ST' VT' VW' all', itr (FX9_ticks_29 WD PL (nI n)) ((0 : Int32), (0 : Int32), SC, SK, TR, ST, VT, VW) = some (s, SC', SK', TR', ST', VT', VW') ∧ FX10_ticksOf MO (nI n) = some (s, sMo_all MO all') ∧ Sim True PL W ln SC' (sMo_all MO all') 0 ∧ SegK SK' all' 0 ∧ OutA 0 (Mo_all MO) all' ∧ NormS ST' := by
  obtain ⟨e, e', q1, q2, s, SC', SK', TR', ST', VT', VW', all', rfl, rfl, q5, q6, q7, q8, q9⟩ := itr_sim (f := FX9_ticks_29 WD PL (nI n)) (g := FX10_ticksOf_16 (nI n)) (Q := fun e e' => ∃ s SC' SK' TR' ST' VT' VW' all', e = (s, SC', SK', TR', ST', VT', VW') ∧ e' = sMo_all MO all' ∧ Sim True PL W ln SC' (sMo_all MO all') 0 ∧ SegK SK' all' 0 ∧ OutA 0 (Mo_all MO) all' ∧ NormS ST' ∧ Sk_total SK' = Sk_total SK + s) (fun i t t' => ∃ s SC' SK' TR' ST' VT' VW' all', t = (s, nI i, SC', SK', TR', ST', VT', VW') ∧ t' = (nI i, sMo_all MO all') ∧ Sim True PL W ln SC' (sMo_all MO all') 0 ∧ SegK SK' all' 0 ∧ OutA 0 (Mo_all MO) all' ∧ NormS ST' ∧ Sk_total SK' = Sk_total SK + s) n (by
    rintro i t t' hi ⟨s, SC', SK', TR', ST', VT', VW', all', rfl, rfl, r1, r2, r3, r4, r5⟩
    unfold FX9_ticks_29 FX10_ticksOf_16
    by_cases hin : i < n
    · left
      refine ⟨hin, ?_⟩
      obtain ⟨c, SC2, SK2, TR2, ST2, VT2, VW2, all2, t1, t2, t3, t4, t5, t6, t7, t8⟩ := tick_both (WD := WD) (TR := TR') (VT := VT') (VW := VW') hR r1 r2 r4
      rw [if_neg (nI_ge hin hn), if_neg (nI_ge hin hn), t2]
      dsimp only
      rw [t1]
      simp only [Option.bind_some, nm]
      rw [nI_1]
      exact ⟨_, _, rfl, rfl, s + nI c, SC2, SK2, TR2, ST2, VT2, VW2, all2, rfl, rfl, t4, t5, r3.tr t6, t7, by rw [t8, r5, Int32.add_assoc]⟩
    · right
      have : i = n := by omega
      subst this
      rw [if_pos (nI_le (Nat.le_refl _) hn), if_pos (nI_le (Nat.le_refl _) hn)]
      exact ⟨_, _, rfl, rfl, s, SC', SK', TR', ST', VT', VW', all', rfl, rfl, r1, r2, r3, r4, r5⟩) (s := ((0 : Int32), (0 : Int32), SC, SK, TR, ST, VT, VW)) (s' := ((0 : Int32), MO)) ⟨0, SC, SK, TR, ST, VT, VW, Mo_all MO, rfl, rfl, h, hK, fun _ _ _ => rfl, hNt, (Int32.add_zero _).symm⟩
  refine ⟨s, SC', SK', TR', ST', VT', VW', all', q1, ?_, q5, q6, q7, q8⟩
  have hb := h.2.2.2.2.1
  unfold FX10_ticksOf
  simp only [nm]
  rw [hb, show nI 0 + 323 = nI 323 from rfl, ix_nI (by decide) (by decide), nI_clamp (by decide), q2, Option.bind_some]
  show (ix (Mo_b MO + 323) 9519 (some (all' (Mo_b MO + 323).toNatClampNeg - Mo_all MO 323, sMo_all MO all'))) = _
  rw [hb, show nI 0 + 323 = nI 323 from rfl, ix_nI (by decide) (by decide), nI_clamp (by decide), show all' 323 = Sk_total SK' from z_b q6.2.2.1, show Mo_all MO 323 = Sk_total SK from z_b hK.2.2.1, q9, Int32.add_comm (Sk_total SK) s, Int32.add_sub_cancel]
end TICKS
section ACTS
variable {WD : WdT} {PL : PlT} {SC SC' : ScT} {SK SK' : SkT} {TP : TpT} {HI HI' : HiT} {HS HS' : Nat → ScT} {HK HK' : Nat → SkT} {RD : RdT} {PD : PlT} {VW VW' : VwT} {TR TR' : TrT} {ST ST' : ScT} {VT VT' : VwT} {SF : ScT} {IM : Nat → Option IMT} {MO MO' : MoT}
/-- an act is done: what has changed, put together -/
theorem Rel.act {W : Nat} {ln : Nat → Nat} {all' : Nat → Int32} {un' : Int32} (h : Rel (WD, PL, SC, SK, TP, HI, HS, HK, RD, PD, VW, TR, ST, VT, SF, IM) MO) (hR : ReachOK PL W ln) (hS : Sim True PL W ln SC' (sMo_undos (sMo_all MO all') un') 0) (hK : SegK SK' all' 0) (hH : RelH W ln PL HI' HS' HK' all' un') (hs : NormS ST') (ha : ∀ j, 5688 ≤ j → all' j = Mo_all MO j) (VW' : VwT) (TR' : TrT) (VT' : VwT) : Rel (WD, PL, SC', SK', TP, HI', HS', HK', RD, PD, VW', TR', ST', VT', SF, IM) (sMo_undos (sMo_all MO all') un') := by
  obtain ⟨W0, ln0, h1, h2, h3, h4, h5, h6, h7, h8, h9⟩ := h
  exact ⟨W, ln, hR, h2, hS, hK, h5, h6, hH, ⟨h8.1, hs, h8.2.2⟩, h9.mv ha⟩
end ACTS
theorem b_ticks : B_ticks Rel := by
  rintro ⟨WD, PL, SC, SK, TP, HI, HS, HK, RD, PD, VW, TR, ST, VT, SF, IM⟩ MO v1 h
  have h' := h
  obtain ⟨W, ln, h1, h2, h3, h4, h5, h6, h7, ⟨x1, x2, x3⟩, h9⟩ := h'
  have hP : PlanOK PL W ln := h3.1
  show ∃ q g, FX9_ticks HI HS HK WD PL SC SK TR ST VT VW v1 = some q ∧ FX10_ticks MO v1 = some g ∧ q.1 = g.1 ∧ Rel (WD, PL, q.2.2.2.2.1, q.2.2.2.2.2.1, TP, q.2.1, q.2.2.1, q.2.2.2.1, RD, PD, q.2.2.2.2.2.2.2.2.2, q.2.2.2.2.2.2.1, q.2.2.2.2.2.2.2.1, q.2.2.2.2.2.2.2.2.1, SF, IM) g.2
  unfold FX9_ticks FX10_ticks
  rw [isIn_eq]
  simp only [Option.bind_some]
  by_cases c1 : v1 < 1
  · rw [if_pos c1, decide_eq_false (fun z => z.1 c1), if_pos bI_f]
    exact ⟨_, _, rfl, rfl, rfl, h⟩
  · by_cases c2 : v1 ≤ 200
    · rw [if_neg c1, if_pos c2, decide_eq_true ⟨c1, Int32.not_lt.mpr c2⟩, if_neg bI_t]
      have c0 : ¬ v1 < 0 := fun z => c1 (by
        rw [Int32.lt_iff_toInt_lt] at z ⊢
        have e0 : (0 : Int32).toInt = 0 := rfl
        have e1 : (1 : Int32).toInt = 1 := rfl
        omega)
      obtain ⟨n, hn, rfl⟩ := nI_of c0
      obtain ⟨HI', HS', HK', all', un', k1, k2, k3, k4⟩ := s_keeps (WD := WD) (SC := SC) (SK := SK) hP ⟨h3.2.1, h3.2.2.1, h3.2.2.2.1, h4⟩ h7
      have hs : Sim True PL W ln SC (sMo_undos (sMo_all MO all') un') 0 := h3.mv h3.2.2.2.2.1 (by omega) (fun i hi => k4 _ (by omega))
      have hk : SegK SK all' 0 := h4.mv (fun i hi => k4 _ (by omega))
      obtain ⟨s, SC', SK', TR', ST', VT', VW', all2, t1, t2, t3, t4, t5, t6⟩ := ticks_loop (WD := WD) (TR := TR) (VT := VT) (VW := VW) h1 hs hk x2 (n := n) hn
      refine ⟨_, _, bd_of k1 (bd_of t1 rfl), bd_of k2 (bd_of t2 rfl), rfl, ?_⟩
      exact h.act h1 t3 t4 (k3.mv hP (fun j hj => t5 j (by omega) (by omega))) t6 (fun j hj => (t5 j (by omega) (by omega)).trans (k4 j (by omega))) VW' TR' VT'
    · rw [if_neg c1, if_neg c2, decide_eq_false (fun z => z.2 (Int32.not_le.mp c2)), if_pos bI_f]
      exact ⟨_, _, rfl, rfl, rfl, h⟩
