/-! ===== watch, free, within, undo ===== -/
theorem c_all {PL : PlT} {W : Nat} {ln : Nat → Nat} {SC : ScT} (hP : PlanOK PL W ln) : FX3_allEnded SC PL = some (decide (pc (enB SC) W = W)) := by
  have h8 := hP.2.1
  have hle : ∀ n, (∀ w, w < n → enB SC w = true) → pc (enB SC) n = n := by
    intro n
    induction n with
    | zero => exact fun _ => rfl
    | succ n ih =>
      intro h
      show pc (enB SC) n + (if enB SC n = true then 1 else 0) = n + 1
      rw [ih (fun w hw => h w (by omega)), if_pos (h n (by omega))]
  have hlt : ∀ n i, i < n → enB SC i = false → pc (enB SC) n < n := by
    intro n
    induction n with
    | zero => intro i hi; omega
    | succ n ih =>
      intro i hi h
      show pc (enB SC) n + (if enB SC n = true then 1 else 0) < n + 1
      by_cases e : i = n
      · subst e
        rw [if_neg (by rw [h]; decide)]
        have := pc_le (P := enB SC) i
        omega
      · have := ih i (by omega) h
        split <;> omega
  obtain ⟨e, q1, q2⟩ := itr_inv (f := FX3_allEnded_2 SC PL) (Q := fun e => (e = Sum.inl () ∧ pc (enB SC) W = W) ∨ (e = Sum.inr () ∧ pc (enB SC) W < W)) (fun i t => t = nI i ∧ ∀ w, w < i → enB SC w = true) W (by
    rintro i t hi ⟨rfl, hw⟩
    unfold FX3_allEnded_2
    simp only [nm]
    rw [hP.1, nI_1]
    by_cases hiW : i < W
    · rw [if_neg (nI_ge hiW (by omega)), ix_nI (by omega) (by decide), nI_clamp (by omega)]
      by_cases c : Sc_place SC i = -1
      · left
        rw [if_pos c]
        refine ⟨hiW, _, rfl, rfl, fun w hw' => ?_⟩
        by_cases ew : w = i
        · subst ew
          exact en_t c
        · exact hw w (by omega)
      · right
        rw [if_neg c]
        exact ⟨_, rfl, Or.inr ⟨rfl, hlt W i hiW (decide_eq_false c)⟩⟩
    · right
      have : i = W := by omega
      subst this
      rw [if_pos (nI_le (Nat.le_refl _) (by omega))]
      exact ⟨_, rfl, Or.inl ⟨rfl, hle i hw⟩⟩) (s := (0 : Int32)) ⟨rfl, fun w hw => by omega⟩
  unfold FX3_allEnded
  rw [q1]
  rcases q2 with ⟨rfl, z⟩ | ⟨rfl, z⟩
  · rw [decide_eq_true z]
    rfl
  · rw [decide_eq_false (by omega)]
    rfl
noncomputable def wtK (e : (ScT × SkT × TrT × ScT × VwT × VwT) ⊕ (Int32 × ScT × SkT × TrT × ScT × VwT × VwT)) : Int32 × ScT × SkT × TrT × ScT × VwT × VwT := Sum.elim (fun u => (200, u)) (fun u => u) e
theorem watch_loop {PL : PlT} {W : Nat} {ln : Nat → Nat} {MO : MoT} {WD : WdT} {SK0 : SkT} (hR : ReachOK PL W ln) (hb : Mo_b MO = nI 0) : ∀ d i (SC : ScT) (SK : SkT) (TR : TrT) (ST : ScT) (VT VW : VwT) (all : Nat → Int32), i + d = 200 → Sim True PL W ln SC (sMo_all MO all) 0 → SegK SK all 0 → NormS ST → Sk_total SK = Sk_total SK0 → ∃ e k SC' SK' TR' ST' VT' VW' all', itr (FX9_watch_35 WD PL) (nI (i + 1), SC, SK, TR, ST, VT, VW) = some e ∧ wtK e = (nI k, SC', SK', TR', ST', VT', VW') ∧ itr (FX10_watch_28 (Sk_total SK0)) (nI i, sMo_all MO all) = some (nI k, sMo_all MO all') ∧ Sim True PL W ln SC' (sMo_all MO all') 0 ∧ SegK SK' all' 0 ∧ OutA 0 all all' ∧ NormS ST'
  | 0, i, SC, SK, TR, ST, VT, VW, all, hd, h, hK, hNt, ht => by
    have hi : i = 200 := by omega
    subst hi
    have f1 : FX9_watch_35 WD PL (nI (200 + 1), SC, SK, TR, ST, VT, VW) = some (Sum.inr (Sum.inl (SC, SK, TR, ST, VT, VW))) := by
      unfold FX9_watch_35
      exact if_pos (show (200 : Int32) < nI 201 by decide)
    have f2 : FX10_watch_28 (Sk_total SK0) (nI 200, sMo_all MO all) = some (Sum.inr (nI 200, sMo_all MO all)) := by
      unfold FX10_watch_28
      exact if_pos (show (200 : Int32) ≤ nI 200 by decide)
    exact ⟨_, 200, SC, SK, TR, ST, VT, VW, all, itr_inr f1, rfl, itr_inr f2, h, hK, fun _ _ _ => rfl, hNt⟩
  | d + 1, i, SC, SK, TR, ST, VT, VW, all, hd, h, hK, hNt, ht => by
    obtain ⟨c, SC2, SK2, TR2, ST2, VT2, VW2, all2, t1, t2, t3, t4, t5, t6, t7, t8⟩ := tick_both (WD := WD) (TR := TR) (VT := VT) (VW := VW) hR h hK hNt
    have h323 : all 323 = Sk_total SK0 := (z_b hK.2.2.1).trans ht
    have h323' : all2 323 = Sk_total SK2 := z_b t5.2.2.1
    have f2 : FX10_watch_28 (Sk_total SK0) (nI i, sMo_all MO all) = some (Sum.inl (nI (i + 1), sMo_all MO all2)) := by
      unfold FX10_watch_28
      refine (if_neg (show ¬ (200 : Int32) ≤ nI i from nI_ge (b := 200) (by omega) (by decide))).trans ?_
      refine (ix_nI (n := 323) (by decide) (by decide) _).trans ?_
      refine (if_pos (show all (Int32.toNatClampNeg (nI 323)) = Sk_total SK0 from by rw [nI_clamp (by decide)]; exact h323)).trans ?_
      refine bd_of t2 ?_
      dsimp only [nm]
      rw [nI_1]
    have f1 : FX9_watch_35 WD PL (nI (i + 1), SC, SK, TR, ST, VT, VW) = if nI c ≤ 0 then some (Sum.inl (nI (i + 1 + 1), SC2, SK2, TR2, ST2, VT2, VW2)) else some (Sum.inr (Sum.inr (nI (i + 1), SC2, SK2, TR2, ST2, VT2, VW2))) := by
      unfold FX9_watch_35
      refine (if_neg (show ¬ (200 : Int32) < nI (i + 1) from nI_nlt (b := i + 1) (a := 200) (by omega) (by decide))).trans ?_
      refine bd_of t1 ?_
      dsimp only [nm]
      rw [nI_1]
    by_cases hc : c = 0
    · subst hc
      rw [if_pos (show nI 0 ≤ 0 by decide)] at f1
      have ht2 : Sk_total SK2 = Sk_total SK0 := by rw [t8, ht, show nI 0 = (0 : Int32) from rfl, Int32.add_zero]
      obtain ⟨e, k, SC', SK', TR', ST', VT', VW', all', g1, g2, g3, g4, g5, g6, g7⟩ := watch_loop (WD := WD) hR hb d (i + 1) SC2 SK2 TR2 ST2 VT2 VW2 all2 (by omega) t4 t5 t7 ht2
      exact ⟨e, k, SC', SK', TR', ST', VT', VW', all', (itr_inl f1).trans g1, g2, (itr_inl f2).trans g3, g4, g5, OutA.tr t6 g6, g7⟩
    · rw [if_neg (nI_nle (by omega) (by omega))] at f1
      have f3 : FX10_watch_28 (Sk_total SK0) (nI (i + 1), sMo_all MO all2) = some (Sum.inr (nI (i + 1), sMo_all MO all2)) := by
        unfold FX10_watch_28
        by_cases c2 : (200 : Int32) ≤ nI (i + 1)
        · exact if_pos c2
        · refine (if_neg c2).trans ?_
          refine (ix_nI (n := 323) (by decide) (by decide) _).trans ?_
          refine if_neg (show ¬ all2 (Int32.toNatClampNeg (nI 323)) = Sk_total SK0 from fun z => ?_)
          rw [nI_clamp (by decide), h323', t8, ht] at z
          exact nI_ne0 (by omega) (by omega) (Int32.add_eq_left.mp z)
      exact ⟨_, i + 1, SC2, SK2, TR2, ST2, VT2, VW2, all2, itr_inr f1, rfl, (itr_inl f2).trans (itr_inr f3), t4, t5, t6, t7⟩
theorem b_watch : B_watch Rel := by
  rintro ⟨WD, PL, SC, SK, TP, HI, HS, HK, RD, PD, VW, TR, ST, VT, SF, IM⟩ MO h
  have h' := h
  obtain ⟨W, ln, h1, h2, h3, h4, h5, h6, h7, ⟨x1, x2, x3⟩, h9⟩ := h'
  have hP : PlanOK PL W ln := h3.1
  have h8 := hP.2.1
  show ∃ q g, FX9_watch HI HS HK WD PL SC SK TR ST VT VW = some q ∧ FX10_watch MO = some g ∧ q.1 = g.1 ∧ Rel (WD, PL, q.2.2.2.2.1, q.2.2.2.2.2.1, TP, q.2.1, q.2.2.1, q.2.2.2.1, RD, PD, q.2.2.2.2.2.2.2.2.2, q.2.2.2.2.2.2.1, q.2.2.2.2.2.2.2.1, q.2.2.2.2.2.2.2.2.1, SF, IM) g.2
  unfold FX9_watch FX10_watch
  rw [c_all hP, s_endedN h3, s_workers h3]
  simp only [Option.bind_some, nm]
  have epc : pc (cpB PL W ln SC 1) W = pc (enB SC) W := pc_congr (fun k _ => rfl)
  rw [show nI (pc (cpB PL W ln SC 1) W) = nI (pc (enB SC) W) from by rw [epc]]
  have hle := pc_le (P := enB SC) W
  by_cases c : pc (enB SC) W = W
  · rw [decide_eq_true c, if_neg bI_t, if_pos (by rw [c])]
    exact ⟨_, _, rfl, rfl, rfl, h⟩
  · rw [decide_eq_false c, if_pos bI_f, if_neg (fun z => c (nI_inj (by omega) (by omega) z))]
    obtain ⟨HI', HS', HK', all', un', k1, k2, k3, k4⟩ := s_keeps (WD := WD) (SC := SC) (SK := SK) hP ⟨h3.2.1, h3.2.2.1, h3.2.2.2.1, h4⟩ h7
    have hs : Sim True PL W ln SC (sMo_all (sMo_undos (sMo_all MO all') un') all') 0 := h3.mv h3.2.2.2.2.1 (by omega) (fun i hi => k4 _ (by omega))
    have hk : SegK SK all' 0 := h4.mv (fun i hi => k4 _ (by omega))
    obtain ⟨e, k, SC', SK', TR', ST', VT', VW', all2, g1, g2, g3, g4, g5, g6, g7⟩ := watch_loop (WD := WD) (MO := sMo_undos (sMo_all MO all') un') (SK0 := SK) h1 h3.2.2.2.2.1 200 0 SC SK TR ST VT VW all' (by omega) hs hk x2 rfl
    have e323 : all' 323 = Sk_total SK := z_b hk.2.2.1
    refine ⟨(nI k, HI', HS', HK', SC', SK', TR', ST', VT', VW'), (nI k, sMo_all (sMo_undos (sMo_all MO all') un') all2), bd_of k1 (bd_of g1 ?_), bd_of k2 ?_, rfl, ?_⟩
    · cases e with
      | inl u =>
        have z : (200, u) = (nI k, SC', SK', TR', ST', VT', VW') := g2
        obtain ⟨z1, z2⟩ := Prod.mk.inj z
        show some (200, HI', HS', HK', u.1, u.2.1, u.2.2.1, u.2.2.2.1, u.2.2.2.2.1, u.2.2.2.2.2) = _
        rw [z2, z1]
      | inr u =>
        have z : u = (nI k, SC', SK', TR', ST', VT', VW') := g2
        rw [z]
        rfl
    · refine (ix_nI (n := 323) (by decide) (by decide) _).trans ?_
      show (itr (FX10_watch_28 (all' (Int32.toNatClampNeg (nI 323)))) (nI 0, sMo_all (sMo_undos (sMo_all MO all') un') all')).bind _ = _
      rw [nI_clamp (by decide), e323, g3]
      rfl
    · exact h.act h1 g4 g5 (k3.mv hP (fun j hj => g6 j (by omega) (by omega))) g7 (fun j hj => (g6 j (by omega) (by omega)).trans (k4 j (by omega))) VW' TR' VT'
theorem SegK.mv2 {SK : SkT} {all all' : Nat → Int32} {β γ : Nat} (h : SegK SK all β) (hc : ∀ i, 322 ≤ i → i < 474 → all' (γ + i) = all (β + i)) : SegK SK all' γ := by
  have hc' : ∀ i x y, x = γ + i → y = β + i → 322 ≤ i → i < 474 → all' x = all y := by
    rintro i _ _ rfl rfl hi hi'
    exact hc i hi hi'
  obtain ⟨h0, h1, h2, h3⟩ := h
  have hk := h0.k.1
  exact ⟨h0, (hc' 322 _ _ rfl rfl (by omega) (by omega)).trans h1, (hc' 323 _ _ rfl rfl (by omega) (by omega)).trans h2, fun i hi j hj => (hc' (324 + 5 * i + j) _ _ (by omega) (by omega) (by omega) (by omega)).trans (h3 i hi j hj)⟩
theorem b_free : B_free Rel := by
  rintro ⟨WD, PL, SC, SK, TP, HI, HS, HK, RD, PD, VW, TR, ST, VT, SF, IM⟩ MO v1 h
  have h' := h
  obtain ⟨W, ln, h1, h2, h3, h4, h5, h6, h7, ⟨x1, x2, x3⟩, h9⟩ := h'
  have hP : PlanOK PL W ln := h3.1
  have hO : SceneOK W ln SC := h3.2.1
  have h8 := hP.2.1
  show ∃ q g, FX9_free HI HS HK WD PL SC SK VW v1 = some q ∧ FX10_free MO v1 = some g ∧ q.1 = g.1 ∧ Rel (WD, PL, q.2.2.2.2.1, SK, TP, q.2.1, q.2.2.1, q.2.2.2.1, RD, PD, q.2.2.2.2.2, TR, ST, VT, SF, IM) g.2
  obtain ⟨VW', l1, l2⟩ := c_look VW hP h1 hO
  have hl : ∀ VW'', Rel (WD, PL, SC, SK, TP, HI, HS, HK, RD, PD, VW'', TR, ST, VT, SF, IM) MO := fun VW'' => h.scr RD VW'' TR VT x1 x2 x3 KeepM.rf (fun _ _ => rfl)
  unfold FX9_free FX10_free FX9_lookNow
  rw [l1]
  simp only [Option.bind_some]
  rw [l2.2.2.1]
  rcases s_isW h3 v1 with ⟨w, hw, rfl, ew⟩ | ⟨c, ew⟩
  · rw [c_has _ (show w < 8 by omega), b_mk _ W (by omega) w (by omega), decide_eq_true hw, Bool.true_and, ew, s_held h3 hw]
    simp only [Option.bind_some]
    rw [if_neg bI_t]
    cases hh : heB PL SC w
    · rw [if_pos bI_f, if_pos bI_f]
      exact ⟨_, _, rfl, rfl, rfl, hl _⟩
    · rw [if_neg bI_t, if_neg bI_t]
      obtain ⟨HI', HS', HK', all', un', k1, k2, k3, k4⟩ := s_keeps (WD := WD) (SC := SC) (SK := SK) hP ⟨h3.2.1, h3.2.2.1, h3.2.2.2.1, h4⟩ h7
      have hs : Sim True PL W ln SC (sMo_undos (sMo_all MO all') un') 0 := h3.mv h3.2.2.2.2.1 (by omega) (fun i hi => k4 _ (by omega))
      obtain ⟨k, hk, e, -, -⟩ := he_at hP hO hw hh
      obtain ⟨g1, -, -⟩ := c_letGo hP hO hw hk e
      obtain ⟨all2, s1, s2, s3⟩ := s_letsGo hs hw hk e
      refine ⟨_, _, bd_of k1 (bd_of g1 rfl), bd_of k2 (bd_of s1 rfl), rfl, ?_⟩
      exact h.act h1 s2 (h4.mv2 (fun i hi hi' => (s3 _ (by omega)).trans (k4 _ (by omega)))) (k3.mv hP (fun j hj => s3 j (by omega))) x2 (fun j hj => (s3 j (by omega)).trans (k4 j (by omega))) VW' TR VT
  · rw [has_out h8 c, ew]
    simp only [Option.bind_some]
    rw [if_pos bI_f, if_pos bI_f]
    exact ⟨_, _, rfl, rfl, rfl, hl _⟩

theorem b_within : B_within Rel := by
  rintro ⟨WD, PL, SC, SK, TP, HI, HS, HK, RD, PD, VW, TR, ST, VT, SF, IM⟩ MO v1 v2 h
  have h' := h
  obtain ⟨W, ln, h1, h2, h3, h4, h5, h6, h7, ⟨x1, x2, x3⟩, h9⟩ := h'
  have hP : PlanOK PL W ln := h3.1
  have hO : SceneOK W ln SC := h3.2.1
  have w1 : Mo_all MO 1 = Sc_window SC := z_b h3.2.2.2.1.1
  have w2 : Mo_all MO 2 = Sc_grace SC := z_b h3.2.2.2.1.2.1
  obtain ⟨HI', HS', HK', all', un', k1, k2, k3, k4⟩ := s_keeps (WD := WD) (SC := SC) (SK := SK) hP ⟨h3.2.1, h3.2.2.1, h3.2.2.2.1, h4⟩ h7
  have hs : Sim True PL W ln SC (sMo_undos (sMo_all MO all') un') 0 := h3.mv h3.2.2.2.2.1 (by omega) (fun i hi => k4 _ (by omega))
  show ∃ q g, FX9_within HI HS HK WD SC SK v1 v2 = some q ∧ FX10_within MO v1 v2 = some g ∧ q.1 = g.1 ∧ Rel (WD, PL, q.2.2.2.2, SK, TP, q.2.1, q.2.2.1, q.2.2.2.1, RD, PD, VW, TR, ST, VT, SF, IM) g.2
  unfold FX9_within FX10_within
  have nat50 : ∀ a : Int32, ¬ v2 < a → 0 ≤ a.toInt → ¬ 50 < v2 → ∃ n, n ≤ 50 ∧ v2 = nI n := fun a z1 z2 z3 => by
    have c0 : ¬ v2 < 0 := fun z => z1 (by
      rw [Int32.lt_iff_toInt_lt] at z ⊢
      have e0 : (0 : Int32).toInt = 0 := rfl
      omega)
    obtain ⟨n, hn, rfl⟩ := nI_of c0
    exact ⟨n, Nat.le_of_not_lt (fun z => z3 (nI_lt (a := 50) z hn)), rfl⟩
  by_cases cg : v1 = 0
  · rw [if_pos cg, if_pos cg]
    unfold FX9_within_j9 FX10_within_j9 FX9_within_j21
    rw [if_pos cg, if_pos cg, if_pos cg]
    unfold FX9_within_j50 FX10_within_j20
    rw [isIn_eq, show (1 : Int32) = nI 1 from rfl, ix_nI (n := 1) (by decide) (by decide), nI_clamp (n := 1) (by decide), w1]
    simp only [Option.bind_some]
    by_cases c1 : v2 < nI 1
    · rw [if_pos c1, decide_eq_false (fun z => z.1 c1), if_pos bI_f]
      exact ⟨_, _, rfl, rfl, rfl, h⟩
    rw [if_neg c1]
    by_cases c2 : 50 < v2
    · rw [if_pos c2, decide_eq_false (fun z => z.2 c2), if_pos bI_f]
      exact ⟨_, _, rfl, rfl, rfl, h⟩
    rw [if_neg c2, decide_eq_true ⟨c1, c2⟩, if_neg bI_t]
    by_cases c3 : v2 = Sc_window SC
    · rw [if_pos c3, if_pos c3.symm]
      exact ⟨_, _, rfl, rfl, rfl, h⟩
    rw [if_neg c3, if_neg (fun z => c3 z.symm)]
    obtain ⟨n, hn, en⟩ := nat50 (nI 1) c1 (by decide) c2
    refine ⟨(true, HI', HS', HK', sSc_window SC v2), (true, sMo_all (sMo_undos (sMo_all MO all') un') (upd all' 1 v2)), bd_of k1 (if_pos cg), bd_of k2 ?_, rfl, ?_⟩
    · exact (ix_nI (n := 1) (by decide) (by decide) _).trans rfl
    · have hz := hs.to (sg_window hs.2.2.2.1 v2) ⟨hO.1, hO.2.1, ⟨n, hn, en⟩, hO.2.2.2⟩ (Chg.up (by omega))
      exact h.act h1 hz (h4.mv2 (fun i hi hi' => (u_ne (by omega)).trans (k4 _ (by omega)))) (k3.mv hP (fun j hj => u_ne (by omega))) x2 (fun j hj => (u_ne (by omega)).trans (k4 j (by omega))) VW TR VT
  · rw [if_neg cg, if_neg cg]
    unfold FX9_within_j9 FX10_within_j9 FX9_within_j21
    rw [if_neg cg, if_neg cg, if_neg cg]
    unfold FX9_within_j50 FX10_within_j20
    rw [isIn_eq, show (2 : Int32) = nI 2 from rfl, ix_nI (n := 2) (by decide) (by decide), nI_clamp (n := 2) (by decide), w2]
    simp only [Option.bind_some]
    by_cases c1 : v2 < 0
    · rw [if_pos c1, decide_eq_false (fun z => z.1 c1), if_pos bI_f]
      exact ⟨_, _, rfl, rfl, rfl, h⟩
    rw [if_neg c1]
    by_cases c2 : 50 < v2
    · rw [if_pos c2, decide_eq_false (fun z => z.2 c2), if_pos bI_f]
      exact ⟨_, _, rfl, rfl, rfl, h⟩
    rw [if_neg c2, decide_eq_true ⟨c1, c2⟩, if_neg bI_t]
    by_cases c3 : v2 = Sc_grace SC
    · rw [if_pos c3, if_pos c3.symm]
      exact ⟨_, _, rfl, rfl, rfl, h⟩
    rw [if_neg c3, if_neg (fun z => c3 z.symm)]
    obtain ⟨n, hn, en⟩ := nat50 0 c1 (by decide) c2
    refine ⟨(true, HI', HS', HK', sSc_grace SC v2), (true, sMo_all (sMo_undos (sMo_all MO all') un') (upd all' 2 v2)), bd_of k1 (if_neg cg), bd_of k2 ?_, rfl, ?_⟩
    · exact (ix_nI (n := 2) (by decide) (by decide) _).trans rfl
    · have hz := hs.to (sg_grace hs.2.2.2.1 v2) ⟨hO.1, hO.2.1, hO.2.2.1, n, hn, en⟩ (Chg.up (by omega))
      exact h.act h1 hz (h4.mv2 (fun i hi hi' => (u_ne (by omega)).trans (k4 _ (by omega)))) (k3.mv hP (fun j hj => u_ne (by omega))) x2 (fun j hj => (u_ne (by omega)).trans (k4 j (by omega))) VW TR VT
theorem b_undo : B_undo Rel := by
  rintro ⟨WD, PL, SC, SK, TP, HI, HS, HK, RD, PD, VW, TR, ST, VT, SF, IM⟩ MO h
  have h' := h
  obtain ⟨W, ln, h1, h2, h3, h4, h5, h6, ⟨nx, mn, y1, y2, y3, y4, y5, y6, y7⟩, ⟨x1, x2, x3⟩, h9⟩ := h'
  have hP : PlanOK PL W ln := h3.1
  have hO : SceneOK W ln SC := h3.2.1
  have hN : NormS SC := h3.2.2.2.1.2.2.2.2.2.2.2.2.2.2.2
  have hKz : Nz 150 (Sk_rows SK) := h4.1.2.2
  obtain ⟨ha, hb⟩ := HI
  have y3' : ha = nI nx := y3
  have y4' : hb = nI mn := y4
  subst y3' y4'
  show ∃ q g, FX9_undo (nI nx, nI mn) HS HK WD SC SK = some q ∧ FX10_undo MO = some g ∧ q.1 = g.1 ∧ Rel (WD, PL, q.2.2.1, q.2.2.2, TP, q.2.1, HS, HK, RD, PD, VW, TR, ST, VT, SF, IM) g.2
  by_cases c : mn = 0
  · subst c
    have e1 : FX9_undo (nI nx, nI 0) HS HK WD SC SK = some (-1, (nI nx, nI 0), SC, SK) := by
      unfold FX9_undo
      exact if_pos rfl
    have e2 : FX10_undo MO = some (-1, MO) := by
      unfold FX10_undo
      rw [y5]
      exact if_pos rfl
    exact ⟨_, _, e1, e2, rfl, h⟩
  · obtain ⟨m, rfl⟩ : ∃ m, mn = m + 1 := ⟨mn - 1, by omega⟩
    have hsl : (nx + 8 - (m + 1) + m) % 8 = (nx + 7) % 8 := by omega
    have hsg := y6 m (by omega)
    rw [hsl] at hsg
    have hnorm := y7 ((nx + 7) % 8) (by omega)
    have e1 : FX9_undo (nI nx, nI (m + 1)) HS HK WD SC SK = some (nI m, (nI ((nx + 7) % 8), nI m), HS ((nx + 7) % 8), HK ((nx + 7) % 8)) := by
      unfold FX9_undo FX0_pop
      dsimp only [nm, Hi_next, Hi_many, sHi_next, sHi_many]
      rw [if_neg (nI_ne0 (by omega) (by omega)), if_neg (nI_nle (by omega) (by omega)), nI_pred, show nI nx + 8 - 1 = nI (nx + 7) from by rw [show (8 : Int32) = nI 8 from rfl, nI_add, show nx + 8 = nx + 7 + 1 from rfl, nI_pred], show (8 : Int32) = nI 8 from rfl, pk_rem (by omega) (by decide) (by decide), ix_nI (by omega) (by decide), nI_clamp (by omega), take_eq hN hnorm.1, Option.bind_some, ix_nI (by omega) (by decide), ktake_eq hKz hnorm.2]
      rfl
    have e2 : FX10_undo MO = some (nI m, sMo_undos (sMo_all MO (cpA (Mo_all MO) (1896 + 474 * m) 0 474)) (nI m)) := by
      unfold FX10_undo
      simp only [nm]
      rw [y5, if_neg (nI_ne0 (by omega) (by omega)), nI_pred]
      show (FX10_copies (sMo_undos MO (nI m)) (1896 + 474 * nI m) 0 474).bind _ = _
      rw [show (1896 : Int32) + 474 * nI m = nI (1896 + 474 * m) from by rw [show (474 : Int32) = nI 474 from rfl, pk_mul, show (1896 : Int32) = nI 1896 from rfl, nI_add], show (0 : Int32) = nI 0 from rfl, show (474 : Int32) = nI 474 from rfl, M_copies (by omega) (by omega) (by omega)]
      rfl
    have hc : ∀ i, i < 474 → cpA (Mo_all MO) (1896 + 474 * m) 0 474 (0 + i) = Mo_all MO (1896 + 474 * m + i) := fun i hi => by
      rw [show cpA (Mo_all MO) (1896 + 474 * m) 0 474 (0 + i) = Mo_all MO (1896 + 474 * m + (0 + i - 0)) from if_pos (by omega), show 0 + i - 0 = i by omega]
    have ho : ∀ j, 474 ≤ j → cpA (Mo_all MO) (1896 + 474 * m) 0 474 j = Mo_all MO j := fun j hj => if_neg (by omega)
    have hseg := hsg.mv (γ := 0) hP hc
    refine ⟨_, _, e1, e2, rfl, ?_⟩
    have hsim : Sim True PL W ln (HS ((nx + 7) % 8)) (sMo_undos (sMo_all MO (cpA (Mo_all MO) (1896 + 474 * m) 0 474)) (nI m)) 0 := ⟨hP, hseg.1, hseg.2.1, hseg.2.2.1, h3.2.2.2.2.1, by omega⟩
    refine h.act h1 hsim hseg.2.2.2 ⟨(nx + 7) % 8, m, by omega, by omega, rfl, rfl, rfl, fun u hu => ?_, y7⟩ x2 (fun j hj => ho j (by omega)) VW TR VT
    rw [show ((nx + 7) % 8 + 8 - m + u) % 8 = (nx + 8 - (m + 1) + u) % 8 by omega]
    exact (y6 u (by omega)).mv hP (fun i hi => ho _ (by omega))
