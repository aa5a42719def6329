/-! ===== a step, a worker's line ===== -/
section WLINE
variable {C : Nat → Nat} {N : Nat} {TP : TpT} {MO0 MO : MoT} {RD : RdT} {PL : PlT}
/-- what is known of the plan between the word and the number of a step -/
def MidQ (RD : RdT) (PL : PlT) (MO : MoT) (κ Wm k : Nat) : Prop := Rd_fault RD = 0 → k < 12 ∧ Wm < 8 ∧ ∃ PL0 ln, Sy RD PL0 MO ln ∧ MdW PL0 MO ln Wm ∧ ln Wm = k ∧ PL = asP PL0 Wm k (nI κ) ∧ Rd_cell RD = nI (12 * Wm + k)
theorem numb_yes (hT : TapM C N TP) (hM : RefM C N MO0) {i s s0 e k κ Wm : Nat} {v : Int32} {v' : Int64} (hA : At N TP RD MO 2 2 v v' s e) (hκ : κ < 8) (hw : Rd_word RD = nI κ) (hI : Inv0 MO0 RD PL MO i s) (hW : Mo_all MO 1422 = nI Wm) (hW8 : Wm ≤ 8) (hk : k ≤ 12) (hnm : ∃ nm, Mo_namedMany MO = nI nm ∧ 2 * nm + 1 ≤ s) (hQ : MidQ RD PL MO κ Wm k) (hs : s0 < s) : RoundRes N TP MO0 2 i RD PL ((FX10_numberOf MO (nI κ) (nI Wm)).bind fun r11 => wrK (nI Wm) (nI k) (nI κ) r11.1 r11.2) s0 Wm := by
  obtain ⟨j1, j2, j3, j4, j5, j6, j7⟩ := hI
  have hN := hT.1
  have hle := hA.2.2.2.2.2.le
  have hlt := hA.2.2.2.2.2.lt (by decide)
  obtain ⟨ab1, ab2, ab3, ab4⟩ := ab_le κ hκ
  obtain ⟨n, m0, rfl, rfl⟩ : ∃ n, n < 100 ∧ v = nI n ∧ v' = lN n := by
    rcases hA.2.2.2.2.2.num with ⟨-, -, z⟩ | ⟨z, -⟩
    · exact z
    · exact absurd rfl z
  obtain ⟨F, P, K, Q, m1, m2, m3, m4⟩ := num_yes2 (PL := PL) (a := aK κ) (b := bK κ) (wd := κ) m0 j2 hA (by omega) j4 hw (by omega) ab1 ab2 ab3 ab4
  obtain ⟨RD2, PL2, q1, q2, q3, q4, q5, q6⟩ := cls_num (X := ftT (rdT RD 2 (nI s) (nI n) (nI e)) F P) (by omega) hw j5
  have g1 := r_go (st := 2) (i := nI i) rfl (by omega) hA.1 (fun z => absurd z.1 (by decide)) (fol_num (m1.trans q1)) (by decide)
  refine RoundRes.go g1 (Nat.le_refl s0) ?_
  obtain ⟨MO3, t3, t3', v3, v3', s3, e3, n1, n2, n3, n4⟩ := next_op (RD := RD2) (MO := alM MO K Q) hT (j3.ref hM) hle.2 q2 hA.2.2.2.2.1
  rw [n1, Option.bind_some] at m2
  have hF3 : FaultR RD2 MO3 (s + 1) := by
    refine n2.fault ?_
    unfold FaultR at m3 ⊢
    rw [q3, q4]
    exact m3
  have e_all : Mo_all MO3 = Mo_all MO := n2.1.1
  have e_nm : Mo_namedMany MO3 = Mo_namedMany MO := n2.1.2.2.2.2
  have e_fk : Mo_faultKind MO3 = 0 := n2.2.1.trans j2
  have e_kr : KeepR MO0 MO3 := n2.2.2.2.2 MO0 j3
  have e_sm : SameM MO MO3 := n2.1
  have hfz : Rd_fault RD2 = 0 → Rd_fault RD = 0 ∧ aK κ ≤ n ∧ n ≤ bK κ := fun z => m4 (by rw [q3] at z; exact z)
  clear n2 m1 q1 m3 m4
  obtain ⟨nm, hnm1, hnm2⟩ := hnm
  -- the plan, once the number is in
  have plan : Rd_fault RD2 = 0 → ∃ PL0 ln, k < 12 ∧ Wm < 8 ∧ Sy RD PL0 MO ln ∧ MdW PL0 MO ln Wm ∧ ln Wm = k ∧ Pl_lengths PL2 = upd (Pl_lengths PL0) Wm (nI (k + 1)) ∧ Pl_kinds PL2 = upd (Pl_kinds PL0) (12 * Wm + k) (nI κ) ∧ Pl_numbers PL2 = upd (Pl_numbers PL0) (12 * Wm + k) (nI n) ∧ (Pl_rooms PL2 = Pl_rooms PL0 ∧ Pl_window PL2 = Pl_window PL0 ∧ Pl_grace PL2 = Pl_grace PL0 ∧ Pl_workers PL2 = Pl_workers PL0) ∧ Rd_spots RD2 = upd (Rd_spots RD) (12 * Wm + k) (nI s) := fun hz => by
    obtain ⟨z1, z2, z3⟩ := hfz hz
    obtain ⟨k1, k2, PL0, ln, k3, k4, k5, k6, k7⟩ := hQ z1
    obtain ⟨p1, p2⟩ := q6 (12 * Wm + k) (by omega) k7
    refine ⟨PL0, ln, k1, k2, k3, k4, k5, ?_, ?_, ?_, ?_, p2⟩
    · rw [p1, k6]
      rfl
    · rw [p1, k6]
      rfl
    · rw [p1, k6]
      exact upd_two
    · rw [p1, k6]
      exact ⟨rfl, rfl, rfl, rfl⟩
  by_cases h56 : κ = 5 ∨ κ = 6
  · have hab : nI (aK κ) = 0 ∧ nI (bK κ) = 7 ∧ aK κ = 0 ∧ bK κ = 7 := by
      rcases h56 with rfl | rfl
      · exact ⟨rfl, rfl, rfl, rfl⟩
      · exact ⟨rfl, rfl, rfl, rfl⟩
    rw [hab.1, hab.2.1] at m2
    rw [numberOf_mate j2 h56, hA.2.1, hA.2.2.2.1]
    by_cases c8 : n < 8
    · rw [if_pos ⟨rfl, fun z => by have := (lN_le (a := 8) (b := n) (by omega) (by omega)).mp z; omega⟩, j105_1 m2 (e_nm.trans hnm1) (by omega), Option.bind_some, hA.2.2.1]
      have ev : (if aK κ ≤ n ∧ n ≤ bK κ then nI n else (0 : Int32)) = nI n := if_pos (by omega)
      rw [ev]
      refine end_step hT hM (MO := nmM MO3 (upd (Mo_named MO3) nm (nI n)) (upd (Mo_namedAt MO3) nm (nI s)) (upd (Mo_namedBy MO3) nm (nI Wm)) (nI (nm + 1))) n4 ⟨by omega, e_fk, e_kr, hF3.up (by omega), q5, ⟨nm + 1, rfl, by omega⟩, ⟨Wm, hW8, (congrFun e_all 1422).trans hW⟩⟩ ((congrFun e_all 1422).trans hW) hW8 hk (fun hz => ?_) (by omega)
      obtain ⟨PL0, ln, k1, k2, k3, k4, k5, p1, p2, p3, p4, p5⟩ := plan hz
      refine ⟨k2, k1, sy_step (at0 := nI s) k3 k4 k5 k1 (step_ok hκ (hfz hz).2) p1 p2 p3 p4 (fun j hj => by rw [p5]; exact u_ne hj) ?_ (Or.inr ⟨h56, by rw [p5]; exact u_eq rfl, nm, hnm1, by omega, ?_, ?_, ?_, rfl⟩) (by omega)⟩
      · show upd (upd (Mo_all MO3) _ _) _ _ = _
        rw [e_all]
      · show upd (Mo_named MO3) _ _ = _
        rw [e_sm.2.1]
      · show upd (Mo_namedBy MO3) _ _ = _
        rw [e_sm.2.2.1]
      · show upd (Mo_namedAt MO3) _ _ = _
        rw [e_sm.2.2.2.1]
    · rw [if_neg (fun z => z.2 ((lN_le (a := 8) (b := n) (by omega) (by omega)).mpr (by omega))), j105_0 m2, Option.bind_some]
      refine end_step hT hM n4 ⟨by omega, e_fk, e_kr, hF3.up (by omega), q5, ⟨nm, e_nm.trans hnm1, by omega⟩, ⟨Wm, hW8, (congrFun e_all 1422).trans hW⟩⟩ ((congrFun e_all 1422).trans hW) hW8 hk (fun hz => ?_) (by omega)
      have := (hfz hz).2
      omega
  · rw [numberOf_eq hκ (by omega) (by omega), m2, Option.bind_some, Option.bind_some]
    refine end_step hT hM n4 ⟨by omega, e_fk, e_kr, hF3.up (by omega), q5, ⟨nm, e_nm.trans hnm1, by omega⟩, ⟨Wm, hW8, (congrFun e_all 1422).trans hW⟩⟩ ((congrFun e_all 1422).trans hW) hW8 hk (fun hz => ?_) (by omega)
    obtain ⟨PL0, ln, k1, k2, k3, k4, k5, p1, p2, p3, p4, p5⟩ := plan hz
    have hz2 := (hfz hz).2
    rw [if_pos hz2]
    refine ⟨k2, k1, sy_step (at0 := nI s) k3 k4 k5 k1 (step_ok hκ hz2) p1 p2 p3 p4 (fun j hj => by rw [p5]; exact u_ne hj) ?_ (Or.inl ⟨h56, e_sm.2.1, e_sm.2.2.1, e_sm.2.2.2.1, e_sm.2.2.2.2⟩) (by omega)⟩
    show upd (upd (Mo_all MO3) _ _) _ _ = _
    rw [e_all]
theorem step_round (hT : TapM C N TP) (hM : RefM C N MO0) {i s e k Wm : Nat} {t t' v : Int32} {v' : Int64} (hA : At N TP RD MO t t' v v' s e) (hI : InvW MO0 RD PL MO i s Wm k) : RoundRes N TP MO0 1 i RD PL (FX10_readsWorker_23 (nI Wm) (nI k, MO)) s Wm := by
  have hN := hT.1
  have hle := hA.2.2.2.2.2.le
  obtain ⟨wi, wi1, wi2, wi3, wi4, wi5⟩ := at_word hA
  by_cases hst : ∃ κ, κ < 10 ∧ wi = some κ
  · obtain ⟨κ, hκ, ew⟩ := hst
    have ht : t = 1 := by
      apply Classical.byContradiction
      intro z
      rw [wi3 z] at ew
      cases ew
    have ht' : t' = 1 := wi4.mpr ht
    have hv : v = nI κ := by rw [wi2 ht, ew]; rfl
    subst ht ht' hv
    have hlt := hA.2.2.2.2.2.lt (by decide)
    have hv2 : FX10_sortOf v' = some (nI κ) := sort_in (wi := wi) (fun k hk => ⟨fun z => (wi5 k hk).mp ⟨rfl, z⟩, fun z => ((wi5 k hk).mpr z).2⟩) ew hκ
    obtain ⟨RD1, PL1, MO1, a1, a2, a3, a4, a5, a6, a7, a8, a9, a10, a11, a12⟩ := word_stage hT hA hv2 hκ hI
    obtain ⟨⟨j1, j2, j3, j4, j5, j6, j7⟩, jW, jw, jk, jS⟩ := hI
    refine RoundRes.go a1 (Nat.le_refl s) ?_
    rw [a2, j78_eq]
    obtain ⟨MO2, t2, t2', v2, v2', s2, e2, n1, n2, n3, n4⟩ := next_op (RD := RD1) hT (a10.ref hM) hle.2 a3 a8
    rw [n1, Option.bind_some]
    have sm : SameM MO MO2 := ⟨n2.1.1.trans a11.1, n2.1.2.1.trans a11.2.1, n2.1.2.2.1.trans a11.2.2.1, n2.1.2.2.2.1.trans a11.2.2.2.1, n2.1.2.2.2.2.trans a11.2.2.2.2⟩
    have hW2 : Mo_all MO2 1422 = nI Wm := (congrFun sm.1 1422).trans jW
    obtain ⟨nm, y1, y2⟩ := j6
    have hI2 : Inv0 MO0 RD1 PL1 MO2 (i + 1) s2 := ⟨by omega, n2.2.1.trans a9, n2.2.2.2.2 MO0 a10, (n2.fault a7).up (by omega), a6, ⟨nm, sm.2.2.2.2.trans y1, by omega⟩, ⟨Wm, jw, hW2⟩⟩
    have hQ : MidQ RD1 PL1 MO2 κ Wm k := fun hz => by
      obtain ⟨z1, z2, z3, z4, z5⟩ := a12 hz
      obtain ⟨ln, k1, k2, k3⟩ := jS z1
      exact ⟨z2, z3, PL, ln, k1.cg a5 sm, k2.cg sm.1, k3, z4, z5⟩
    clear a1 a2 a11 a12 n1 n2
    by_cases h89 : κ = 8 ∨ κ = 9
    · rw [numberOf_stop h89, Option.bind_some]
      have e4 : stK κ = 4 := if_pos h89
      rw [e4]
      refine end_step hT hM n4 hI2 hW2 jw jk (fun hz => ?_) (by omega)
      obtain ⟨k1, k2, PL0, ln, k3, k4, k5, k6, k7⟩ := hQ hz
      subst k6
      refine ⟨k2, k1, sy_step (at0 := 0) (PL' := asP PL0 Wm k (nI κ)) k3 k4 k5 k1 ?_ rfl rfl rfl ⟨rfl, rfl, rfl, rfl⟩ (fun _ _ => rfl) rfl (Or.inl ⟨by omega, rfl, rfl, rfl, rfl⟩) hκ⟩
      refine Or.inr (Or.inr (Or.inr (Or.inr (Or.inr ⟨?_, rfl⟩))))
      rcases h89 with rfl | rfl
      · exact Or.inl rfl
      · exact Or.inr rfl
    · have e2' : stK κ = 2 := if_neg h89
      rw [e2']
      by_cases ct : t2 = 2
      · have ct' : t2' = 2 := by
          rcases n4.2.2.2.2.2.num with ⟨-, z, -⟩ | ⟨z, -⟩
          · exact z
          · exact absurd ct z
        subst ct ct'
        exact numb_yes hT hM n4 (by omega) a4 hI2 hW2 jw jk ⟨nm, sm.2.2.2.2.trans y1, by omega⟩ hQ (by omega)
      · exact numb_no hT n4 ct (by omega) hI2 jw jk
  · obtain ⟨⟨j1, j2, j3, j4, j5, j6, j7⟩, jW, jw, jk, jS⟩ := hI
    have hr : FX10_readsWorker_23 (nI Wm) (nI k, MO) = some (Sum.inr (Sum.inl (bdM MO (nI s)))) := by
      have hj : FX10_readsWorker_j43 (nI Wm) (nI k, MO) (-1) = some (Sum.inr (Sum.inl (bdM MO (nI s)))) := by
        unfold FX10_readsWorker_j43
        refine (if_pos rfl).trans ?_
        refine bd_of (wrong_eq j2) ?_
        rw [hA.2.2.1]
        unfold FX10_readsWorker_j55
        refine bd_of (good_f (MO := bdM MO (nI s)) rfl) ?_
        exact if_pos bI_f
      unfold FX10_readsWorker_23
      by_cases c : t' = 1
      · refine (if_pos (show Mo_token MO = 1 from hA.2.1.trans c)).trans ?_
        show (FX10_sortOf (Mo_value MO)).bind _ = _
        rw [hA.2.2.2.1, sort_out (wi := wi) (fun k hk => ⟨fun z => (wi5 k hk).mp ⟨c, z⟩, fun z => ((wi5 k hk).mpr z).2⟩) (fun κ h1 h2 => hst ⟨κ, h1, h2⟩), Option.bind_some]
        exact hj
      · refine (if_neg (show ¬ Mo_token MO = 1 from fun z => c (hA.2.1.symm.trans z))).trans ?_
        exact hj
    have hfo : ∃ RD2, FX2_follow (rdT RD t (nI s) v (nI e)) PL 1 = some (-1, RD2, PL) ∧ Rd_start RD2 = nI s := by
      unfold FX2_follow
      rw [if_neg (show ¬ (1 : Int32) = 0 by decide), if_pos rfl]
      by_cases c : t = 1
      · have ho : FX2_openStep (rdT RD t (nI s) v (nI e)) PL = some (-1, wdT (rdT RD t (nI s) v (nI e)) v, PL) := by
          unfold FX2_openStep
          dsimp only [nm]
          show (if v < 0 then _ else if v ≤ 9 then _ else _) = _
          cases hwi : wi with
          | none =>
            have hv : v = -1 := by rw [wi2 c, hwi]; rfl
            rw [if_pos (by rw [hv]; decide)]
          | some m =>
            have hm := wi1 m hwi
            have hm10 : 10 ≤ m := Nat.le_of_not_lt (fun z => hst ⟨m, z, hwi⟩)
            have hv : v = nI m := by rw [wi2 c, hwi]; rfl
            rw [if_neg (by rw [hv]; exact nI_pos (by omega)), if_neg (by rw [hv]; exact nI_ge (a := 9) (by omega) (by omega))]
        refine ⟨_, (if_pos c).trans (bd_of ho rfl), rfl⟩
      · exact ⟨_, if_neg c, rfl⟩
    obtain ⟨RD2, f1, f2⟩ := hfo
    exact Or.inl ⟨_, PL, _, r_bad rfl (by omega) hA.1 (fun z => absurd z.2 (by decide)) f1 f2, j5.2.2, Or.inl hr, rfl, rfl, rfl, j3⟩
/-- how the steps of a worker end -/
def StepsRes (N : Nat) (TP : TpT) (MO0 : MoT) (i : Nat) (RD : RdT) (PL : PlT) (r : Option (MoT ⊕ (Int32 × MoT))) (s Wm : Nat) : Prop := (∃ RDf PLf MO', itr (FX2_read_29 TP) (1, 1, nI i, RD, PL) = some (RDf, PLf) ∧ NormP PLf ∧ (r = some (Sum.inl MO') ∨ ∃ k', r = some (Sum.inr (k', MO'))) ∧ Bad MO0 RDf MO') ∨ (∃ i' RD' PL' MO' k' t t' v v' s' e', itr (FX2_read_29 TP) (1, 1, nI i, RD, PL) = itr (FX2_read_29 TP) (4, 1, nI i', RD', PL') ∧ r = some (Sum.inr (nI k', MO')) ∧ At N TP RD' MO' t t' v v' s' e' ∧ InvW MO0 RD' PL' MO' i' s' Wm k' ∧ ¬ t = 4 ∧ s < s' ∧ (Rd_fault RD' = 0 → 1 ≤ k'))
theorem steps_loop (hT : TapM C N TP) (hM : RefM C N MO0) {Wm : Nat} : ∀ d (i s e k : Nat) (t t' v : Int32) (v' : Int64) (RD : RdT) (PL : PlT) (MO : MoT), N ≤ s + d → At N TP RD MO t t' v v' s e → InvW MO0 RD PL MO i s Wm k → StepsRes N TP MO0 i RD PL (itr (FX10_readsWorker_23 (nI Wm)) (nI k, MO)) s Wm
  | d, i, s, e, k, t, t', v, v', RD, PL, MO, hd, hA, hI => by
    rcases step_round hT hM hA hI with ⟨RDf, PLf, MO', a1, a2, a3, a4⟩ | ⟨i2, RD2, PL2, MO2, k2, t2, t2', v2, v2', s2, e2, a1, a2, a3, a4, a5, a6, a7⟩ | ⟨i2, RD2, PL2, MO2, k2, t2, t2', v2, v2', s2, e2, a1, a2, a3, a4, a5⟩
    · refine Or.inl ⟨RDf, PLf, MO', a1, a2, ?_, a4⟩
      rcases a3 with z | ⟨k', z⟩
      · exact Or.inl (itr_inr z)
      · exact Or.inr ⟨k', itr_inr z⟩
    · exact Or.inr ⟨i2, RD2, PL2, MO2, k2, t2, t2', v2, v2', s2, e2, a1, itr_inr a2, a3, a4, a5, a6, a7⟩
    · have hle2 := a3.2.2.2.2.2.le
      match d, hd with
      | 0, hd => exact absurd hle2.1 (by omega)
      | d + 1, hd =>
        rw [itr_inl a2]
        rcases steps_loop hT hM d i2 s2 e2 k2 t2 t2' v2 v2' RD2 PL2 MO2 (by omega) a3 a4 with ⟨RDf, PLf, MO', b1, b2⟩ | ⟨i3, RD3, PL3, MO3, k3, t3, t3', v3, v3', s3, e3, b1, b2, b3, b4, b5, b6, b7⟩
        · exact Or.inl ⟨RDf, PLf, MO', a1.trans b1, b2⟩
        · exact Or.inr ⟨i3, RD3, PL3, MO3, k3, t3, t3', v3, v3', s3, e3, a1.trans b1, b2, b3, b4, b5, by omega, b7⟩
end WLINE
