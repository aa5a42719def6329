/-! ===== all lines ===== -/
section LINES
variable {C : Nat → Nat} {N : Nat} {TP : TpT} {MO0 MO : MoT} {RD : RdT} {PL : PlT}
theorem addW_in {W : Nat} (h : Pl_workers PL = nI W) (hW : W < 8) : FX1_addWorker PL = some (true, sPl_workers PL (nI (W + 1))) := by
  unfold FX1_addWorker
  rw [h]
  refine (if_pos (show nI W < (8 : Int32) from nI_lt (b := 8) hW (by decide))).trans ?_
  dsimp only [nm]
  rw [nI_1]
theorem addW_no (h : Pl_workers PL = nI 8) : FX1_addWorker PL = some (false, PL) := by
  unfold FX1_addWorker
  rw [h]
  exact if_neg (by decide)
theorem fol_worker {s e : Nat} {b : Bool} {PL1 : PlT} (hadd : FX1_addWorker PL = some (b, PL1)) : (b = true → FX2_follow (rdT RD 1 (nI s) (nI 13) (nI e)) PL 0 = some (1, wdT (rdT RD 1 (nI s) (nI 13) (nI e)) (nI 13), PL1)) ∧ (b = false → ∀ F P, FX2_note (wdT (rdT RD 1 (nI s) (nI 13) (nI e)) (nI 13)) 4 = some (ftT (wdT (rdT RD 1 (nI s) (nI 13) (nI e)) (nI 13)) F P) → FX2_follow (rdT RD 1 (nI s) (nI 13) (nI e)) PL 0 = some (1, ftT (wdT (rdT RD 1 (nI s) (nI 13) (nI e)) (nI 13)) F P, PL1)) := by
  have base : ∀ r, (if bI b = 0 then (FX2_note (wdT (rdT RD 1 (nI s) (nI 13) (nI e)) (nI 13)) 4).bind (fun r7 => some ((1 : Int32), r7, PL1)) else some (1, wdT (rdT RD 1 (nI s) (nI 13) (nI e)) (nI 13), PL1)) = some r → FX2_follow (rdT RD 1 (nI s) (nI 13) (nI e)) PL 0 = some r := fun r hr => by
    unfold FX2_follow
    refine (if_pos rfl).trans ?_
    refine (if_pos rfl).trans ?_
    have : FX2_openLine (rdT RD 1 (nI s) (nI 13) (nI e)) PL = some r := by
      unfold FX2_openLine
      dsimp only [nm]
      refine (if_neg (show ¬ (nI 13 = (10 : Int32) ∨ nI 13 = (11 : Int32) ∨ nI 13 = (12 : Int32)) by decide)).trans ?_
      refine (if_pos (show nI 13 = (13 : Int32) by decide)).trans ?_
      exact bd_of hadd hr
    exact bd_of this rfl
  constructor
  · intro hb
    refine base _ ?_
    rw [hb, if_neg bI_t]
  · intro hb F P hn
    refine base _ ?_
    rw [hb, if_pos bI_f, hn]
    rfl
/-- a worker's line is opened -/
theorem worker_open (hT : TapM C N TP) (hM : RefM C N MO0) {i s e : Nat} {v' : Int64} (hA : At N TP RD MO 1 1 (nI 13) v' s e) (hI : InvL MO0 RD PL MO i s) : ∃ RD1 PL1 MO1 MO2 t1 t1' v1 v1' s1 e1 Wm, itr (FX2_read_29 TP) (0, 1, nI i, RD, PL) = itr (FX2_read_29 TP) (1, 1, nI (i + 1), RD1, PL1) ∧ FX10_takes MO = some MO1 ∧ FX10_readsWorker MO1 (nI s) = FX10_readsWorker_j21 (nI Wm) MO2 ∧ At N TP RD1 MO2 t1 t1' v1 v1' s1 e1 ∧ InvW MO0 RD1 PL1 MO2 (i + 1) s1 Wm 0 ∧ s < s1 := by
  obtain ⟨⟨j1, j2, j3, j4, j5, j6, Wm, j7, j8⟩, jS⟩ := hI
  have hN := hT.1
  have hle := hA.2.2.2.2.2.le
  have hlt := hA.2.2.2.2.2.lt (by decide)
  have rw0 : ∀ MO1 : MoT, Mo_all MO1 1422 = nI Wm → FX10_readsWorker MO1 (nI s) = if Wm = 8 then (FX10_also MO1 4 (nI s)).bind (fun r => FX10_readsWorker_j21 (nI Wm) r) else FX10_readsWorker_j21 (nI Wm) MO1 := fun MO1 h1 => by
    unfold FX10_readsWorker
    dsimp only [nm]
    rw [show (1422 : Int32) = nI 1422 from rfl, ix_nI (by decide) (by decide), nI_clamp (by decide), h1]
    by_cases c : Wm = 8
    · rw [if_pos c]
      exact if_pos (by rw [c]; rfl)
    · rw [if_neg c]
      exact if_neg (show ¬ nI Wm = (8 : Int32) from fun z => c (nI_inj (b := 8) (by omega) (by decide) z))
  -- the reference has its next token; the class's reader is one of two
  have fin : ∀ (RD1 : RdT) (PL1 : PlT), FX2_follow (rdT RD 1 (nI s) (nI 13) (nI e)) PL 0 = some (1, RD1, PL1) → Rd_next RD1 = nI e → Rd_spots RD1 = Rd_spots RD → Safe PL1 → (∀ MO1 : MoT, EqT MO MO1 → ∃ MO2, (if Wm = 8 then (FX10_also MO1 4 (nI s)).bind (fun r => FX10_readsWorker_j21 (nI Wm) r) else FX10_readsWorker_j21 (nI Wm) MO1) = FX10_readsWorker_j21 (nI Wm) MO2 ∧ FaultR RD1 MO2 (s + 1) ∧ (MO2 = MO1 ∨ ∃ K Q, MO2 = alM MO1 K Q)) → (Rd_fault RD1 = 0 → ∃ ln, Sy RD PL1 MO ln ∧ MdW PL1 MO ln Wm ∧ ln Wm = 0) → ∃ RD1 PL1 MO1 MO2 t1 t1' v1 v1' s1 e1 Wm, itr (FX2_read_29 TP) (0, 1, nI i, RD, PL) = itr (FX2_read_29 TP) (1, 1, nI (i + 1), RD1, PL1) ∧ FX10_takes MO = some MO1 ∧ FX10_readsWorker MO1 (nI s) = FX10_readsWorker_j21 (nI Wm) MO2 ∧ At N TP RD1 MO2 t1 t1' v1 v1' s1 e1 ∧ InvW MO0 RD1 PL1 MO2 (i + 1) s1 Wm 0 ∧ s < s1 := by
    intro RD1 PL1 f1 f2 f3 f4 f5 f6
    obtain ⟨MO1, t1, t1', v1, v1', s1, e1, n1, n2, n3, n4⟩ := next_op (RD := RD1) hT (j3.ref hM) hle.2 f2 hA.2.2.2.2.1
    obtain ⟨MO2, g1, g2, g3⟩ := f5 MO1 n2
    have hg := r_go (st := 0) (i := nI i) rfl (by omega) hA.1 (fun z => absurd z.1 (by decide)) f1 (by decide)
    obtain ⟨nm, y1, y2⟩ := j6
    have base : InvW MO0 RD1 PL1 MO2 (i + 1) s1 Wm 0 ∧ At N TP RD1 MO2 t1 t1' v1 v1' s1 e1 := by
      have e_all : Mo_all MO1 = Mo_all MO := n2.1.1
      rcases g3 with rfl | ⟨K, Q, rfl⟩
      · exact ⟨⟨⟨by omega, n2.2.1.trans j2, n2.2.2.2.2 MO0 j3, g2.up (by omega), f4, ⟨nm, n2.1.2.2.2.2.trans y1, by omega⟩, ⟨Wm, j7, (congrFun e_all 1422).trans j8⟩⟩, (congrFun e_all 1422).trans j8, j7, by omega, fun hz => by
          obtain ⟨ln, k1, k2, k3⟩ := f6 hz
          exact ⟨ln, k1.cg f3 n2.1, k2.cg e_all, k3⟩⟩, n4⟩
      · exact ⟨⟨⟨by omega, n2.2.1.trans j2, n2.2.2.2.2 MO0 j3, g2.up (by omega), f4, ⟨nm, n2.1.2.2.2.2.trans y1, by omega⟩, ⟨Wm, j7, (congrFun e_all 1422).trans j8⟩⟩, (congrFun e_all 1422).trans j8, j7, by omega, fun hz => by
          obtain ⟨ln, k1, k2, k3⟩ := f6 hz
          exact ⟨ln, k1.cg (MO' := alM MO1 K Q) f3 n2.1, k2.cg (MO' := alM MO1 K Q) e_all, k3⟩⟩, n4⟩
    exact ⟨RD1, PL1, MO1, MO2, t1, t1', v1, v1', s1, e1, Wm, hg, n1, (rw0 MO1 ((congrFun n2.1.1 1422).trans j8)).trans g1, base.2, base.1, by omega⟩
  by_cases hf : Rd_fault RD = 0
  · obtain ⟨W, ln, hy, hw1, hw2, hw3, hw4, hw5, hw6⟩ := jS hf
    have eW : W = Wm := nI_inj (by omega) (by omega) (hw3.symm.trans j8)
    subst eW
    by_cases c : W < 8
    · refine fin _ _ ((fol_worker (addW_in hw2 c)).1 rfl) rfl rfl ⟨⟨W + 1, by omega, rfl⟩, j5.2.1, j5.2.2⟩ (fun MO1 hE => ⟨MO1, if_neg (by omega), (hE.fault j4).up (by omega), Or.inl rfl⟩) (fun _ => ⟨ln, hy, ⟨c, rfl, hw3, fun w hw => ?_, hw5, fun w h1 h2 => hw6 w (by omega) h2⟩, hw6 W (Nat.le_refl _) c⟩)
      rw [hw4 w hw]
      by_cases e : w = W
      · rw [if_pos e, e, hw6 W (Nat.le_refl _) c]
      · rw [if_neg e]
    · have e8 : W = 8 := by omega
      subst e8
      have key : ∃ F P, FX2_note (wdT (rdT RD 1 (nI s) (nI 13) (nI e)) (nI 13)) 4 = some (ftT (wdT (rdT RD 1 (nI s) (nI 13) (nI e)) (nI 13)) F P) ∧ ¬ F = 0 ∧ ∀ MO1 : MoT, EqT MO MO1 → ∃ K Q, FX10_also MO1 4 (nI s) = some (alM MO1 K Q) ∧ FaultR (ftT (wdT (rdT RD 1 (nI s) (nI 13) (nI e)) (nI 13)) F P) (alM MO1 K Q) (s + 1) := by
        obtain ⟨F, P, K, Q, g1, g2, g3, g4⟩ := note_also (RD := wdT (rdT RD 1 (nI s) (nI 13) (nI e)) (nI 13)) (f := 4) (x := s) j4 (by omega) (Nat.le_refl _) (by omega) rfl
        refine ⟨F, P, g1, g4, fun MO1 hE => ?_⟩
        obtain ⟨F', P', K', Q', g1', g2', g3', g4'⟩ := note_also (RD := wdT (rdT RD 1 (nI s) (nI 13) (nI e)) (nI 13)) (MO := MO1) (f := 4) (x := s) (hE.fault j4) (by omega) (Nat.le_refl _) (by omega) rfl
        have eq1 := Option.some.inj (g1.symm.trans g1')
        refine ⟨K', Q', g2', ?_⟩
        rw [eq1]
        exact g3'
      obtain ⟨F, P, g1, g2, g3⟩ := key
      refine fin _ _ ((fol_worker (addW_no hw2)).2 rfl F P g1) rfl rfl j5 (fun MO1 hE => ?_) (fun z => absurd z g2)
      obtain ⟨K, Q, g4, g5⟩ := g3 MO1 hE
      exact ⟨_, by rw [if_pos rfl, g4]; rfl, g5, Or.inr ⟨K, Q, rfl⟩⟩
  · have hF : ∀ MO1 : MoT, EqT MO MO1 → ∃ MO2, (if Wm = 8 then (FX10_also MO1 4 (nI s)).bind (fun r => FX10_readsWorker_j21 (nI Wm) r) else FX10_readsWorker_j21 (nI Wm) MO1) = FX10_readsWorker_j21 (nI Wm) MO2 ∧ FaultR (wdT (rdT RD 1 (nI s) (nI 13) (nI e)) (nI 13)) MO2 (s + 1) ∧ (MO2 = MO1 ∨ ∃ K Q, MO2 = alM MO1 K Q) := fun MO1 hE => by
      refine ⟨MO1, ?_, (hE.fault j4).up (by omega), Or.inl rfl⟩
      by_cases c : Wm = 8
      · rw [if_pos c, also_id (hE.fault j4) hf (Nat.le_refl _) (by omega)]
        rfl
      · rw [if_neg c]
    obtain ⟨W, hW, eW⟩ := j5.1
    by_cases c : W < 8
    · exact fin _ _ ((fol_worker (addW_in eW c)).1 rfl) rfl rfl ⟨⟨W + 1, by omega, rfl⟩, j5.2.1, j5.2.2⟩ hF (fun z => absurd z hf)
    · have e8 : W = 8 := by omega
      subst e8
      exact fin _ _ ((fol_worker (addW_no eW)).2 rfl (Rd_fault RD) (Rd_spot RD) (note_id (RD := wdT (rdT RD 1 (nI s) (nI 13) (nI e)) (nI 13)) hf)) rfl rfl j5 hF (fun z => absurd z hf)
theorem line_worker (hT : TapM C N TP) (hM : RefM C N MO0) {i s e : Nat} {v' : Int64} (hA : At N TP RD MO 1 1 (nI 13) v' s e) (hI : InvL MO0 RD PL MO i s) : LineRes N TP MO0 0 i RD PL ((FX10_takes MO).bind (fun r => (FX10_readsWorker r (nI s)).bind tlM)) s := by
  obtain ⟨RD1, PL1, MO1, MO2, t1, t1', v1, v1', s1, e1, Wm, a1, a2, a3, a4, a5, a6⟩ := worker_open hT hM hA hI
  refine LineRes.go a1 (show s ≤ s1 by omega) ?_
  rw [a2, Option.bind_some, a3]
  have hw8 : Wm ≤ 8 := a5.2.2.1
  have hst := steps_loop hT hM (Wm := Wm) N (i + 1) s1 e1 0 t1 t1' v1 v1' RD1 PL1 MO2 (by omega) a4 a5
  -- what stands behind the steps
  have j21 : ∀ ex, itr (FX10_readsWorker_23 (nI Wm)) (nI 0, MO2) = some ex → FX10_readsWorker_j21 (nI Wm) MO2 = Sum.elim (fun u => some u) (fun u => if Wm = 8 then some u.2 else some (sMo_all u.2 (upd (upd (Mo_all u.2) (1429 + Wm) u.1) 1422 (upd (Mo_all u.2) (1429 + Wm) u.1 1422 + 1)))) ex := fun ex hex => by
    unfold FX10_readsWorker_j21
    refine bd_of hex ?_
    cases ex with
    | inl u => rfl
    | inr u =>
      show (if nI Wm = 8 then _ else _) = (if Wm = 8 then _ else _)
      by_cases c : Wm = 8
      · rw [if_pos c]
        exact if_pos (by rw [c]; rfl)
      · rw [if_neg c]
        refine (if_neg (show ¬ nI Wm = (8 : Int32) from fun z => c (nI_inj (b := 8) (by omega) (by decide) z))).trans ?_
        rw [show (1429 : Int32) + nI Wm = nI (1429 + Wm) from nI_add 1429 Wm, ix_nI (by omega) (by decide), nI_clamp (by omega)]
        dsimp only [nm]
        rw [show (1422 : Int32) = nI 1422 from rfl, ix_nI (by decide) (by decide), ix_nI (by decide) (by decide), nI_clamp (by decide)]
  rcases hst with ⟨RDf, PLf, MO', b1, b2, b3, b4⟩ | ⟨i2, RD2, PL2, MO', k, t2, t2', v2, v2', s2, e2, b1, b2, b3, b4, b5, b6, b7⟩
  · obtain ⟨c1, c2, c3, c4⟩ := b4
    rcases b3 with b3 | ⟨k', b3⟩
    · rw [j21 _ b3]
      exact Or.inl ⟨RDf, PLf, MO', b1, b2, tl_bad c2, c1, c2, c3, c4⟩
    · rw [j21 _ b3]
      show LineRes N TP MO0 1 (i + 1) RD1 PL1 ((if Wm = 8 then some MO' else some (sMo_all MO' (upd (upd (Mo_all MO') (1429 + Wm) k') 1422 (upd (Mo_all MO') (1429 + Wm) k' 1422 + 1)))).bind tlM) s1
      by_cases c : Wm = 8
      · rw [if_pos c]
        exact Or.inl ⟨RDf, PLf, MO', b1, b2, tl_bad c2, c1, c2, c3, c4⟩
      · rw [if_neg c]
        exact Or.inl ⟨RDf, PLf, _, b1, b2, tl_bad (MO := sMo_all MO' (upd (upd (Mo_all MO') (1429 + Wm) k') 1422 (upd (Mo_all MO') (1429 + Wm) k' 1422 + 1))) c2, c1, c2, c3, up_keep (MO := sMo_all MO' (upd (Mo_all MO') (1429 + Wm) k')) (up_keep c4 (by omega)) (by omega)⟩
  · refine LineRes.go b1 (show s1 ≤ s2 by omega) ?_
    rw [j21 _ b2]
    show LineRes N TP MO0 4 i2 RD2 PL2 ((if Wm = 8 then some MO' else some (sMo_all MO' (upd (upd (Mo_all MO') (1429 + Wm) (nI k)) 1422 (upd (Mo_all MO') (1429 + Wm) (nI k) 1422 + 1)))).bind tlM) s2
    obtain ⟨⟨j1, j2, j3, j4, j5, j6, j7⟩, jW, jw, jk, jS⟩ := b4
    by_cases c : Wm = 8
    · rw [if_pos c, Option.bind_some]
      exact tail_both hT hM b3 ⟨⟨j1, j2, j3, j4, j5, j6, j7⟩, fun hz => by
        obtain ⟨ln, k1, k2, k3⟩ := jS hz
        have := k2.1
        omega⟩ (Or.inr ⟨rfl, b5⟩)
    · rw [if_neg c, Option.bind_some]
      have z0 : upd (Mo_all MO') (1429 + Wm) (nI k) 1422 + 1 = nI (Wm + 1) := by rw [u_ne (by omega), jW, nI_1]
      rw [z0]
      have z1 : ∀ j, j ≠ 1422 → j ≠ 1429 + Wm → upd (upd (Mo_all MO') (1429 + Wm) (nI k)) 1422 (nI (Wm + 1)) j = Mo_all MO' j := fun j h1 h2 => (u_ne h1).trans (u_ne h2)
      have z2 : upd (upd (Mo_all MO') (1429 + Wm) (nI k)) 1422 (nI (Wm + 1)) 1422 = nI (Wm + 1) := u_eq rfl
      have z3 : upd (upd (Mo_all MO') (1429 + Wm) (nI k)) 1422 (nI (Wm + 1)) (1429 + Wm) = nI k := (u_ne (by omega)).trans (u_eq rfl)
      generalize upd (upd (Mo_all MO') (1429 + Wm) (nI k)) 1422 (nI (Wm + 1)) = A at z1 z2 z3 ⊢
      refine tail_both hT hM (MO := sMo_all MO' A) b3 ⟨⟨j1, j2, ⟨j3.1, j3.2.1, j3.2.2.1, j3.2.2.2.1, j3.2.2.2.2.1, j3.2.2.2.2.2.1, fun j hj => (z1 j (by omega) (by omega)).trans (j3.2.2.2.2.2.2 j hj)⟩, j4, j5, j6, ⟨Wm + 1, by omega, z2⟩⟩, fun hz => ?_⟩ (Or.inr ⟨rfl, b5⟩)
      obtain ⟨ln, ⟨y1, y2, y3, y4, y5, y6, y7⟩, ⟨w1, w2, w3, w4, w5, w6⟩, k3⟩ := jS hz
      refine ⟨Wm + 1, ln, ⟨y1, fun w hw j hj => ?_, fun p hp => (z1 _ (by omega) (by omega)).trans (y3 p hp), ⟨(z1 1423 (by decide) (by omega)).trans y4.1, y4.2⟩, ⟨(z1 1424 (by decide) (by omega)).trans y5.1, y5.2⟩, fun i hi hi' => (z1 _ (by omega) (by omega)).trans (y6 i hi hi'), y7⟩, by omega, w2, z2, fun w hw => ?_, fun w hw => ?_, fun w h1 h2 => w6 w (by omega) h2⟩
      · obtain ⟨x1, x2, x3⟩ := y2 w hw j hj
        have := (y1 w hw).2
        exact ⟨(z1 _ (by omega) (by omega)).trans x1, (z1 _ (by omega) (by omega)).trans x2, x3⟩
      · show A (1429 + w) = nI (ln w)
        by_cases e : w = Wm
        · rw [e, z3, k3]
        · rw [z1 _ (by omega) (by omega), w4 w hw, if_neg e]
      · by_cases e : w = Wm
        · rw [e, k3]
          exact b7 hz
        · exact w5 w (by omega)
end LINES
