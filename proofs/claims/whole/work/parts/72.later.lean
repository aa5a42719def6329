/-! ===== what would be ===== -/
section LATER
variable {μ : Prop} {PL : PlT} {W : Nat} {ln : Nat → Nat} {SC : ScT} {MO : MoT} {β : Nat}
theorem seg_false {all : Nat → Int32} {f : Nat → Int32} (h : SegS μ (sSc_marks SC f) all β) (hn : NormS SC) : SegS False SC all β := by
  obtain ⟨h0, h1, h2, h3, h4, h5, h6, h7, h8, h9, -, -⟩ := h
  exact ⟨h0, h1, h2, h3, h4, h5, h6, h7, h8, h9, fun z => z.elim, hn⟩
theorem Sim.weak {f : Nat → Int32} (h : Sim μ PL W ln (sSc_marks SC f) MO β) (hn : NormS SC) : Sim False PL W ln SC MO β := ⟨h.1, ⟨h.2.1.1, h.2.1.2⟩, h.2.2.1, seg_false h.2.2.2.1 hn, h.2.2.2.2⟩
/-- with the marks that the reference has -/
theorem Sim.full (h : Sim False PL W ln SC MO β) : ∃ f, Sim True PL W ln (sSc_marks SC f) MO β := by
  obtain ⟨hP, hO, hp, ⟨h0, h1, h2, h3, h4, h5, h6, h7, h8, h9, -, n0, n1, n2, n3, n4, n5, n6, n7⟩, hb⟩ := h
  refine ⟨fun w => if w < 8 then Mo_all MO (β + 314 + w) else 0, hP, ⟨hO.1, hO.2⟩, hp, ⟨h0, h1, h2, h3, h4, h5, h6, h7, h8, h9, fun _ w hw => ?_, n0, n1, n2, n3, ?_, n5, n6, n7⟩, hb⟩
  · exact (if_pos hw).symm
  · intro k hk
    exact if_neg (by omega)
theorem tick_alone (h : Sim False PL W ln SC MO β) (hβ : β + 474 ≤ 948) {SK : SkT} (hK : SegK SK (Mo_all MO) β) : ∃ SC1 SK' all', FX3_pass SC PL = some SC1 ∧ FX10_ticksOnce MO = some (sMo_all MO all') ∧ OutA β (Mo_all MO) all' ∧ Sim False PL W ln SC1 (sMo_all MO all') β ∧ SegK SK' all' β := by
  have hb := h.2.2.2.2.1
  obtain ⟨SC1, a1, p1, p2, p3, p4⟩ := tick_sim h
  have hn : NormS SC1 := p3.2.2.2.1.2.2.2.2.2.2.2.2.2.2.2
  have hK1 : SegK SK a1 β := hK.mv2 (fun i hi hi' => p4 _ (by omega))
  obtain ⟨f, hf⟩ := p3.full
  obtain ⟨all', s1, s2, s3, s4⟩ := s_stalls hf hβ hK1
  refine ⟨SC1, _, all', p1, ?_, fun j j1 j2 => (s2 j j1 j2).trans (p4 j (by omega)), Sim.weak (SC := SC1) (f := msF PL W ln (sSc_marks SC1 f) W) s3 hn, s4⟩
  rw [hd_mk] at s1
  unfold FX10_ticksOnce
  simp only [nm]
  rw [hb, show nI β + 207 = nI (β + 207) from nI_add β 207, ix_nI (by omega) (by decide), ix_nI (by omega) (by decide), nI_clamp (show β + 207 < 2 ^ 31 by omega), h.2.2.2.1.2.2.1]
  refine bd_of p2 ?_
  refine bd_of (s_hard p3) ?_
  refine bd_of s1 ?_
  rfl
/-- ticks of a state laid aside -/
theorem later_loop (h : Sim False PL W ln SC MO β) (hβ : β + 474 ≤ 948) {SK : SkT} (hK : SegK SK (Mo_all MO) β) {n : Nat} (hn : n < 2 ^ 31) : ∃ SC' t all', itr (FX9_later_56 PL (nI n)) ((0 : Int32), SC) = some SC' ∧ FX10_ticksOf MO (nI n) = some (t, sMo_all MO all') ∧ OutA β (Mo_all MO) all' ∧ Sim False PL W ln SC' (sMo_all MO all') β := by
  obtain ⟨e, e', q1, q2, SC', SK', all', rfl, rfl, q5, q6, q7⟩ := itr_sim (f := FX9_later_56 PL (nI n)) (g := FX10_ticksOf_16 (nI n)) (Q := fun e e' => ∃ SC' SK' all', e = SC' ∧ e' = sMo_all MO all' ∧ Sim False PL W ln SC' (sMo_all MO all') β ∧ SegK SK' all' β ∧ OutA β (Mo_all MO) all') (fun i t t' => ∃ SC' SK' all', t = (nI i, SC') ∧ t' = (nI i, sMo_all MO all') ∧ Sim False PL W ln SC' (sMo_all MO all') β ∧ SegK SK' all' β ∧ OutA β (Mo_all MO) all') n (by
    rintro i t t' hi ⟨SC', SK', all', rfl, rfl, r1, r2, r3⟩
    unfold FX9_later_56 FX10_ticksOf_16
    by_cases hin : i < n
    · left
      refine ⟨hin, ?_⟩
      obtain ⟨SC2, SK2, all2, t1, t2, t3, t4, t5⟩ := tick_alone r1 hβ r2
      rw [if_neg (nI_ge hin hn), if_neg (nI_ge hin hn), t2]
      dsimp only
      rw [t1]
      simp only [Option.bind_some, nm]
      rw [nI_1]
      exact ⟨_, _, rfl, rfl, SC2, SK2, all2, rfl, rfl, t4, t5, r3.tr t3⟩
    · right
      have : i = n := by omega
      subst this
      rw [if_pos (nI_le (Nat.le_refl _) hn), if_pos (nI_le (Nat.le_refl _) hn)]
      exact ⟨_, _, rfl, rfl, SC', SK', all', rfl, rfl, r1, r2, r3⟩) (s := ((0 : Int32), SC)) (s' := ((0 : Int32), MO)) ⟨SC, SK, Mo_all MO, rfl, rfl, h, hK, fun _ _ _ => rfl⟩
  have hb := h.2.2.2.2.1
  refine ⟨e, all' (β + 323) - Mo_all MO (β + 323), all', q1, ?_, q7, q5⟩
  unfold FX10_ticksOf
  simp only [nm]
  rw [hb, show nI β + 323 = nI (β + 323) from nI_add β 323, ix_nI (by omega) (by decide), nI_clamp (by omega), q2, Option.bind_some]
  show (ix (Mo_b MO + 323) 9519 (some (all' (Mo_b MO + 323).toNatClampNeg - Mo_all MO (β + 323), sMo_all MO all'))) = _
  rw [hb, show nI β + 323 = nI (β + 323) from nI_add β 323, ix_nI (by omega) (by decide), nI_clamp (by omega)]
/-- the state that is, laid aside -/
theorem s_aside {SK : SkT} (h : Sim True PL W ln SC MO 0) (hK : SegK SK (Mo_all MO) 0) : ∃ all1, FX10_laysAside MO = some (sMo_b (sMo_all MO all1) (nI 474)) ∧ Sim True PL W ln SC (sMo_b (sMo_all MO all1) (nI 474)) 474 ∧ SegK SK all1 474 ∧ ∀ j, (j < 474 ∨ 948 ≤ j) → all1 j = Mo_all MO j := by
  have hc : ∀ i, i < 474 → cpA (Mo_all MO) 0 474 474 (474 + i) = Mo_all MO (0 + i) := fun i hi => by
    rw [show cpA (Mo_all MO) 0 474 474 (474 + i) = Mo_all MO (0 + (474 + i - 474)) from if_pos (by omega), show 474 + i - 474 = i by omega]
  refine ⟨cpA (Mo_all MO) 0 474 474, ?_, h.mv rfl (by omega) (fun i hi => hc i (by omega)), hK.mv hc, fun j hj => if_neg (by omega)⟩
  unfold FX10_laysAside
  rw [show (0 : Int32) = nI 0 from rfl, show (474 : Int32) = nI 474 from rfl, M_copies (by omega) (by omega) (by omega)]
  rfl
end LATER
theorem b_later : B_later Rel := by
  rintro ⟨WD, PL, SC, SK, TP, HI, HS, HK, RD, PD, VW, TR, ST, VT, SF, IM⟩ MO v1 v2 h
  have h' := h
  obtain ⟨W, ln, h1, h2, h3, h4, h5, h6, h7, ⟨x1, x2, x3⟩, h9⟩ := h'
  have hP : PlanOK PL W ln := h3.1
  have h8 := hP.2.1
  have hN : NormS SC := h3.2.2.2.1.2.2.2.2.2.2.2.2.2.2.2
  have x3' : NormS SF := x3
  show ∃ q g, FX9_later SF WD PL SC VW v1 v2 = some q ∧ FX10_later MO v1 v2 = some g ∧ q.1 = g.1 ∧ Rel (WD, PL, SC, SK, TP, HI, HS, HK, RD, PD, q.2.2, TR, ST, VT, q.2.1, IM) g.2
  have bad : ∀ a b, a = some ((-1 : Int32), SF, VW) → b = some ((-1 : Int32), MO) → ∃ (q : Int32 × ScT × VwT) (g : Int32 × MoT), a = some q ∧ b = some g ∧ q.1 = g.1 ∧ Rel (WD, PL, SC, SK, TP, HI, HS, HK, RD, PD, q.2.2, TR, ST, VT, q.2.1, IM) g.2 := fun a b ea eb => ⟨_, _, ea, eb, rfl, h⟩
  -- what is done where all is as it must be
  have good : ∀ n what, n ≤ 200 → (what = 1 ∨ (5 ≤ what ∧ what ≤ 9)) → ∃ (q : Int32 × ScT × VwT) (g : Int32 × MoT), FX9_later_j21 SF PL SC VW (nI n) (nI what) 1 = some q ∧ (FX10_laysAside MO).bind (fun r4 => (FX10_ticksOf r4 (nI n)).bind (fun r5 => if nI what = 1 then (FX10_ended r5.2).bind (fun r9 => some (r9, sMo_b r5.2 0)) else (FX10_counted r5.2 (nI what)).bind (fun r7 => some (r7, sMo_b r5.2 0)))) = some g ∧ q.1 = g.1 ∧ Rel (WD, PL, SC, SK, TP, HI, HS, HK, RD, PD, q.2.2, TR, ST, VT, q.2.1, IM) g.2 := by
    intro n what hn hw
    obtain ⟨all1, a1, a2, a3, a4⟩ := s_aside h3 h4
    obtain ⟨SC', t, all2, l1, l2, l3, l4⟩ := later_loop (a2.weak hN) (by omega) a3 (n := n) (by omega)
    obtain ⟨VW', v1', v2'⟩ := c_look VW hP h1 l4.2.1
    have hfin : Rel (WD, PL, SC, SK, TP, HI, HS, HK, RD, PD, VW', TR, ST, VT, SC', IM) (sMo_b (sMo_all (sMo_b (sMo_all MO all1) (nI 474)) all2) 0) := h.scr RD VW' TR VT x1 x2 l4.2.2.2.1.2.2.2.2.2.2.2.2.2.2.2 ⟨rfl, rfl, rfl, rfl, rfl, rfl, h3.2.2.2.2.1.symm⟩ (fun j hj => (l3 j (by omega) (by omega)).trans (a4 j (by omega)))
    refine ⟨(nI (pc (cpB PL W ln SC' what) W), SC', VW'), (nI (pc (cpB PL W ln SC' what) W), sMo_b (sMo_all (sMo_b (sMo_all MO all1) (nI 474)) all2) 0), ?_, bd_of a1 (bd_of l2 ?_), rfl, hfin⟩
    · unfold FX9_later_j21
      rw [if_neg (nI_pos (by omega)), if_neg (show ¬ (200 : Int32) < nI n from nI_nlt (a := 200) hn (by decide)), if_neg (by decide), take_eq x3' hN, Option.bind_some, l1, Option.bind_some, v1', Option.bind_some, c_tally h8 v2' hw]
      rfl
    · dsimp only
      by_cases c : what = 1
      · subst c
        rw [if_pos (show nI 1 = 1 from rfl), s_endedN l4]
        rfl
      · rw [if_neg (show ¬ nI what = 1 from fun z => c (nI_inj (b := 1) (by omega) (by decide) z)), s_counted l4 (by omega)]
        rfl
  unfold FX9_later FX10_later
  rw [isIn_eq, isIn_eq]
  simp only [Option.bind_some, nm]
  by_cases cn : ¬ v1 < 0 ∧ ¬ 200 < v1
  · obtain ⟨n, hn, rfl⟩ := nI_of cn.1
    have hn2 : n ≤ 200 := Nat.le_of_not_lt (fun z => cn.2 (nI_lt (a := 200) z hn))
    rw [decide_eq_true cn, if_neg bI_t]
    by_cases c1 : v2 = 1
    · subst c1
      rw [if_pos rfl, if_pos rfl]
      exact good n 1 hn2 (Or.inl rfl)
    · rw [if_neg c1, if_neg c1]
      by_cases cw : ¬ v2 < 5 ∧ ¬ 9 < v2
      · have hz : ¬ v2 < 0 := fun z => cw.1 (by
          rw [Int32.lt_iff_toInt_lt] at z ⊢
          have e0 : (0 : Int32).toInt = 0 := rfl
          have e5 : (5 : Int32).toInt = 5 := rfl
          omega)
        obtain ⟨j, hj, rfl⟩ := nI_of hz
        have j1 : 5 ≤ j := Nat.le_of_not_lt (fun z => cw.1 (nI_lt (b := 5) z (by decide)))
        have j2 : j ≤ 9 := Nat.le_of_not_lt (fun z => cw.2 (nI_lt (a := 9) z hj))
        rw [if_neg cw.1, if_neg cw.2, decide_eq_true cw, if_neg bI_t]
        exact good n j hn2 (Or.inr ⟨j1, j2⟩)
      · rw [decide_eq_false cw, if_pos bI_f]
        have e0 : FX9_later_j21 SF PL SC VW (nI n) v2 0 = some (-1, SF, VW) := by
          unfold FX9_later_j21
          rw [if_neg cn.1, if_neg cn.2, if_pos rfl]
        refine bad _ _ ?_ rfl
        by_cases d1 : v2 < 5
        · rw [if_pos d1]
          exact e0
        · rw [if_neg d1, if_pos (Classical.byContradiction (fun z => cw ⟨d1, z⟩))]
          exact e0
  · have e0 : ∀ x, FX9_later_j21 SF PL SC VW v1 v2 x = some (-1, SF, VW) := fun x => by
      unfold FX9_later_j21
      by_cases d1 : v1 < 0
      · rw [if_pos d1]
      · rw [if_neg d1, if_pos (Classical.byContradiction (fun z => cn ⟨d1, z⟩))]
    rw [decide_eq_false cn, if_pos bI_f]
    refine bad _ _ ?_ rfl
    rw [e0, e0]
    split
    · rfl
    · split
      · rfl
      · split <;> rfl
theorem ends_loop {PL : PlT} {W : Nat} {ln : Nat → Nat} {MO : MoT} {w : Nat} (hP : PlanOK PL W ln) (hw : w < W) : ∀ d i (SC : ScT) (SK : SkT) (all : Nat → Int32), i + d = 200 → Sim False PL W ln SC (sMo_all MO all) 474 → SegK SK all 474 → ∃ e SC' k all', itr (FX9_ends_26 PL (nI w)) (nI i, SC) = some e ∧ itr (FX10_ends_16 (nI w)) (nI i, sMo_all MO all) = some (nI k, sMo_all MO all') ∧ OutA 474 all all' ∧ NormS SC' ∧ ∃ b, FX10_isEnded (sMo_all MO all') (nI w) = some b ∧ (if b = true then e = Sum.inr (nI k, SC') else e = Sum.inl SC')
  | d, i, SC, SK, all, hd, h, hK => by
    have h8 := hP.2.1
    have hn : NormS SC := h.2.2.2.1.2.2.2.2.2.2.2.2.2.2.2
    have he := s_ended h hw
    obtain ⟨SC2, SK2, all2, t1, t2, t3, t4, t5⟩ := tick_alone h (by omega) hK
    have f1 : FX9_ends_26 PL (nI w) (nI i, SC) = if Sc_place SC w = -1 then some (Sum.inr (Sum.inr (nI i, SC))) else some (Sum.inl (nI (i + 1), SC2)) := by
      unfold FX9_ends_26
      refine (if_neg (show ¬ (200 : Int32) < nI i from nI_nlt (a := 200) (by omega) (by decide))).trans ?_
      refine (ix_nI (show w < 8 by omega) (by decide) _).trans ?_
      dsimp only [nm]
      rw [nI_clamp (by omega), t1, Option.bind_some, nI_1]
    by_cases c : Sc_place SC w = -1
    · rw [if_pos c] at f1
      rw [decide_eq_true c] at he
      have f2 : FX10_ends_16 (nI w) (nI i, sMo_all MO all) = some (Sum.inr (nI i, sMo_all MO all)) := by
        unfold FX10_ends_16
        by_cases c2 : (200 : Int32) ≤ nI i
        · exact if_pos c2
        · refine (if_neg c2).trans ?_
          exact bd_of he (if_neg bI_t)
      exact ⟨_, SC, i, all, itr_inr f1, itr_inr f2, fun _ _ _ => rfl, hn, true, he, rfl⟩
    · rw [if_neg c] at f1
      rw [decide_eq_false c] at he
      have hn2 : NormS SC2 := t4.2.2.2.1.2.2.2.2.2.2.2.2.2.2.2
      match d, hd with
      | 0, hd =>
        have hi : i = 200 := by omega
        subst hi
        have f3 : FX9_ends_26 PL (nI w) (nI (200 + 1), SC2) = some (Sum.inr (Sum.inl SC2)) := by
          unfold FX9_ends_26
          exact if_pos (show (200 : Int32) < nI 201 by decide)
        have f2 : FX10_ends_16 (nI w) (nI 200, sMo_all MO all) = some (Sum.inr (nI 200, sMo_all MO all)) := by
          unfold FX10_ends_16
          exact if_pos (show (200 : Int32) ≤ nI 200 by decide)
        exact ⟨_, SC2, 200, all, (itr_inl f1).trans (itr_inr f3), itr_inr f2, fun _ _ _ => rfl, hn2, false, he, rfl⟩
      | d + 1, hd =>
        have f2 : FX10_ends_16 (nI w) (nI i, sMo_all MO all) = some (Sum.inl (nI (i + 1), sMo_all MO all2)) := by
          unfold FX10_ends_16
          refine (if_neg (show ¬ (200 : Int32) ≤ nI i from nI_ge (b := 200) (by omega) (by decide))).trans ?_
          refine bd_of he ?_
          refine (if_pos bI_f).trans ?_
          refine bd_of t2 ?_
          dsimp only [nm]
          rw [nI_1]
        obtain ⟨e, SC', k, all', g1, g2, g3, g4, g5⟩ := ends_loop (MO := MO) hP hw d (i + 1) SC2 SK2 all2 (by omega) t4 t5
        exact ⟨e, SC', k, all', (itr_inl f1).trans g1, (itr_inl f2).trans g2, OutA.tr t3 g3, g4, g5⟩
theorem b_ends : B_ends Rel := by
  rintro ⟨WD, PL, SC, SK, TP, HI, HS, HK, RD, PD, VW, TR, ST, VT, SF, IM⟩ MO v1 h
  have h' := h
  obtain ⟨W, ln, h1, h2, h3, h4, h5, h6, h7, ⟨x1, x2, x3⟩, h9⟩ := h'
  have hP : PlanOK PL W ln := h3.1
  have h8 := hP.2.1
  have hN : NormS SC := h3.2.2.2.1.2.2.2.2.2.2.2.2.2.2.2
  have x3' : NormS SF := x3
  show ∃ q g, FX9_ends SF WD PL SC v1 = some q ∧ FX10_ends MO v1 = some g ∧ q.1 = g.1 ∧ Rel (WD, PL, SC, SK, TP, HI, HS, HK, RD, PD, VW, TR, ST, VT, q.2, IM) g.2
  unfold FX9_ends FX10_ends
  rcases s_isW h3 v1 with ⟨w, hw, rfl, ew⟩ | ⟨c, ew⟩
  · obtain ⟨all1, a1, a2, a3, a4⟩ := s_aside h3 h4
    obtain ⟨e, SC', k, all2, l1, l2, l3, l4, b, l5, l6⟩ := ends_loop (MO := sMo_b (sMo_all MO all1) (nI 474)) hP hw 200 0 SC SK all1 (by omega) (a2.weak hN) a3
    have hfin : Rel (WD, PL, SC, SK, TP, HI, HS, HK, RD, PD, VW, TR, ST, VT, SC', IM) (sMo_b (sMo_all (sMo_b (sMo_all MO all1) (nI 474)) all2) 0) := h.scr RD VW TR VT x1 x2 l4 ⟨rfl, rfl, rfl, rfl, rfl, rfl, h3.2.2.2.2.1.symm⟩ (fun j hj => (l3 j (by omega) (by omega)).trans (a4 j (by omega)))
    rw [ew, c_isW hP hw]
    simp only [Option.bind_some]
    rw [if_neg bI_t, if_neg bI_t]
    cases b with
    | true =>
      rw [if_pos rfl] at l6
      subst l6
      refine ⟨(nI k, SC'), (nI k, sMo_b (sMo_all (sMo_b (sMo_all MO all1) (nI 474)) all2) 0), bd_of (take_eq x3' hN) (bd_of l1 rfl), bd_of a1 (bd_of l2 (bd_of l5 ?_)), rfl, hfin⟩
      dsimp only [nm]
      exact if_neg bI_t
    | false =>
      rw [if_neg (by decide)] at l6
      subst l6
      refine ⟨(-1, SC'), (-1, sMo_b (sMo_all (sMo_b (sMo_all MO all1) (nI 474)) all2) 0), bd_of (take_eq x3' hN) (bd_of l1 rfl), bd_of a1 (bd_of l2 (bd_of l5 ?_)), rfl, hfin⟩
      dsimp only [nm]
      exact if_pos bI_f
  · rw [ew, c_isW_f hP c]
    simp only [Option.bind_some]
    rw [if_pos bI_f, if_pos bI_f]
    exact ⟨_, _, rfl, rfl, rfl, h⟩
theorem told_loop {PL : PlT} {W : Nat} {ln : Nat → Nat} {SC : ScT} {MO : MoT} {WD : WdT} {VW : VwT} {SK : SkT} (hR : ReachOK PL W ln) (h : Sim True PL W ln SC MO 474) (hK : SegK SK (Mo_all MO) 474) {n : Nat} (hn : n < 2 ^ 31) : ∃ s SC' VW' all', itr (FX9_told_52 WD PL (nI n)) ((0 : Int32), (0 : Int32), SC, VW) = some (s, SC', VW') ∧ FX10_ticksOf MO (nI n) = some (s, sMo_all MO all') ∧ NormS SC' ∧ OutA 474 (Mo_all MO) all' := by
  have h8 := h.W8
  obtain ⟨e, e', q1, q2, s, SC', SK', VW', all', rfl, rfl, q5, q6, q7, q8⟩ := itr_sim (f := FX9_told_52 WD PL (nI n)) (g := FX10_ticksOf_16 (nI n)) (Q := fun e e' => ∃ s SC' SK' VW' all', e = (s, SC', VW') ∧ e' = sMo_all MO all' ∧ Sim True PL W ln SC' (sMo_all MO all') 474 ∧ SegK SK' all' 474 ∧ OutA 474 (Mo_all MO) all' ∧ Sk_total SK' = Sk_total SK + s) (fun i t t' => ∃ s SC' SK' VW' all', t = (s, nI i, SC', VW') ∧ t' = (nI i, sMo_all MO all') ∧ Sim True PL W ln SC' (sMo_all MO all') 474 ∧ SegK SK' all' 474 ∧ OutA 474 (Mo_all MO) all' ∧ Sk_total SK' = Sk_total SK + s) n (by
    rintro i t t' hi ⟨s, SC', SK', VW', all', rfl, rfl, r1, r2, r3, r4⟩
    unfold FX9_told_52 FX10_ticksOf_16
    by_cases hin : i < n
    · left
      refine ⟨hin, ?_⟩
      obtain ⟨SC1, all2, p1, p2, p3, p4, p5, p6, p7⟩ := s_tick r1 (by omega) r2
      obtain ⟨VW2, m1, m2⟩ := c_markStalls (WD := WD) VW' h.1 hR p2
      rw [if_neg (nI_ge hin hn), if_neg (nI_ge hin hn), p4]
      dsimp only
      rw [p1, Option.bind_some, m1]
      simp only [Option.bind_some, nm]
      rw [c_count h8, Option.bind_some, nI_1]
      exact ⟨_, _, rfl, rfl, s + nI (pc (fsB PL W ln SC1) W), _, _, VW2, all2, rfl, rfl, p6, p7, r3.tr p5, by rw [sk_total, r4, Int32.add_assoc]⟩
    · right
      have : i = n := by omega
      subst this
      rw [if_pos (nI_le (Nat.le_refl _) hn), if_pos (nI_le (Nat.le_refl _) hn)]
      exact ⟨_, _, rfl, rfl, s, SC', SK', VW', all', rfl, rfl, r1, r2, r3, r4⟩) (s := ((0 : Int32), (0 : Int32), SC, VW)) (s' := ((0 : Int32), MO)) ⟨0, SC, SK, VW, Mo_all MO, rfl, rfl, h, hK, fun _ _ _ => rfl, (Int32.add_zero _).symm⟩
  refine ⟨s, SC', VW', all', q1, ?_, q5.2.2.2.1.2.2.2.2.2.2.2.2.2.2.2, q7⟩
  have hb := h.2.2.2.2.1
  unfold FX10_ticksOf
  simp only [nm]
  rw [hb, show nI 474 + 323 = nI 797 from rfl, ix_nI (by decide) (by decide), nI_clamp (by decide), q2, Option.bind_some]
  show (ix (Mo_b MO + 323) 9519 (some (all' (Mo_b MO + 323).toNatClampNeg - Mo_all MO 797, sMo_all MO all'))) = _
  rw [hb, show nI 474 + 323 = nI 797 from rfl, ix_nI (by decide) (by decide), nI_clamp (by decide), show all' 797 = Sk_total SK' from q6.2.2.1, show Mo_all MO 797 = Sk_total SK from hK.2.2.1, q8, Int32.add_comm (Sk_total SK) s, Int32.add_sub_cancel]
theorem b_told : B_told Rel := by
  rintro ⟨WD, PL, SC, SK, TP, HI, HS, HK, RD, PD, VW, TR, ST, VT, SF, IM⟩ MO v1 v2 h
  have h' := h
  obtain ⟨W, ln, h1, h2, h3, h4, h5, h6, h7, ⟨x1, x2, x3⟩, h9⟩ := h'
  have hP : PlanOK PL W ln := h3.1
  have hO : SceneOK W ln SC := h3.2.1
  have h8 := hP.2.1
  have hN : NormS SC := h3.2.2.2.1.2.2.2.2.2.2.2.2.2.2.2
  have x3' : NormS SF := x3
  show ∃ q g, FX9_told SF WD PL SC VW v1 v2 = some q ∧ FX10_told MO v1 v2 = some g ∧ q.1 = g.1 ∧ Rel (WD, PL, SC, SK, TP, HI, HS, HK, RD, PD, q.2.2, TR, ST, VT, q.2.1, IM) g.2
  unfold FX9_told FX10_told
  rw [isIn_eq, isIn_eq]
  simp only [Option.bind_some, nm]
  have nn : ∀ v : Int32, ¬ v < 1 → ¬ v < 0 := fun v c z => c (by
    rw [Int32.lt_iff_toInt_lt] at z ⊢
    have e0 : (0 : Int32).toInt = 0 := rfl
    have e1 : (1 : Int32).toInt = 1 := rfl
    omega)
  by_cases c1 : v1 < 1
  · rw [if_pos c1, decide_eq_false (fun z => z.1 c1), if_pos bI_f]
    exact ⟨_, _, rfl, rfl, rfl, h⟩
  rw [if_neg c1]
  by_cases c2 : 200 < v1
  · rw [if_pos c2, decide_eq_false (fun z => z.2 c2), if_pos bI_f]
    exact ⟨_, _, rfl, rfl, rfl, h⟩
  rw [if_neg c2, decide_eq_true ⟨c1, c2⟩, if_neg bI_t]
  by_cases c3 : v2 < 1
  · rw [if_pos c3, decide_eq_false (fun z => z.1 c3), if_pos bI_f]
    exact ⟨_, _, rfl, rfl, rfl, h⟩
  rw [if_neg c3]
  by_cases c4 : v2 ≤ 50
  · rw [if_pos c4, decide_eq_true ⟨c3, Int32.not_lt.mpr c4⟩, if_neg bI_t]
    obtain ⟨n, hn, rfl⟩ := nI_of (nn v1 c1)
    obtain ⟨m, hm, rfl⟩ := nI_of (nn v2 c3)
    have hm50 : m ≤ 50 := (nI_leI (b := 50) hm (by decide)).mp c4
    obtain ⟨all1, a1, a2, a3, a4⟩ := s_aside h3 h4
    have b1 := a2.to (sg_window a2.2.2.2.1 (nI m)) ⟨hO.1, hO.2.1, ⟨m, hm50, rfl⟩, hO.2.2.2⟩ (Chg.up (by omega))
    have b2 : SegK SK (upd all1 475 (nI m)) 474 := a3.mv2 (fun i hi hi' => u_ne (by omega))
    obtain ⟨s, SC', VW', all2, l1, l2, l3, l4⟩ := told_loop (WD := WD) (VW := VW) h1 b1 b2 (n := n) hn
    have hfin : Rel (WD, PL, SC, SK, TP, HI, HS, HK, RD, PD, VW', TR, ST, VT, SC', IM) (sMo_b (sMo_all (sMo_b (sMo_all MO all1) (nI 474)) all2) 0) := h.scr RD VW' TR VT x1 x2 l3 ⟨rfl, rfl, rfl, rfl, rfl, rfl, h3.2.2.2.2.1.symm⟩ (fun j hj => (l4 j (by omega) (by omega)).trans ((u_ne (by omega)).trans (a4 j (by omega))))
    refine ⟨(s, SC', VW'), (s, sMo_b (sMo_all (sMo_b (sMo_all MO all1) (nI 474)) all2) 0), bd_of (take_eq x3' hN) (bd_of l1 rfl), bd_of a1 ?_, rfl, hfin⟩
    refine (ix_nI (n := 475) (by decide) (by decide) _).trans ?_
    exact bd_of l2 rfl
  · rw [if_neg c4, decide_eq_false (fun z => z.2 (Int32.not_le.mp c4)), if_pos bI_f]
    exact ⟨_, _, rfl, rfl, rfl, h⟩
