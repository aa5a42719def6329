/-! ===== the stages of a step ===== -/
def stK (κ : Nat) : Int32 := if κ = 8 ∨ κ = 9 then 4 else 2
abbrev clT (RD : RdT) (w c : Int32) : RdT := sRd_cell (sRd_word RD w) c
theorem note_id {RD : RdT} {f : Int32} (h : ¬ Rd_fault RD = 0) : FX2_note RD f = some RD := if_neg h
theorem also_id {RD : RdT} {MO : MoT} {q x : Nat} {f : Int32} (hF : FaultR RD MO q) (h : ¬ Rd_fault RD = 0) (hx : q ≤ x) (hx' : x < 2 ^ 31) : FX10_also MO f (nI x) = some MO := by
  rcases hF with ⟨z, -⟩ | ⟨f0, x0, h1, h2, h3, h4, h5, h6, h7⟩
  · exact absurd z h
  · unfold FX10_also
    refine (if_neg (show ¬ Mo_alsoKind MO ≤ 0 by rw [h6]; exact nI_nle (by omega) (by omega))).trans ?_
    exact if_pos (show Mo_alsoPlace MO < nI x by rw [h7]; exact nI_lt (by omega) hx')
section STAGE
variable {C : Nat → Nat} {N : Nat} {TP : TpT} {MO0 MO : MoT} {RD : RdT} {PL PL1 : PlT}
theorem j54_eq {κ : Nat} {c : Int32} {X : RdT} (hκ : κ < 10) (hw : Rd_word X = nI κ) : FX2_openStep_j54 (c, PL1) X = some (stK κ, X, PL1) := by
  unfold FX2_openStep_j54 stK
  rw [hw]
  by_cases c8 : κ = 8
  · rw [if_pos (show nI κ = (8 : Int32) from by rw [c8]; rfl), if_pos (Or.inl c8)]
  · rw [if_neg (show ¬ nI κ = (8 : Int32) from fun z => c8 (nI_inj (b := 8) (by omega) (by decide) z))]
    by_cases c9 : κ = 9
    · rw [if_pos (show nI κ = (9 : Int32) from by rw [c9]; rfl), if_pos (Or.inr c9)]
    · rw [if_neg (show ¬ nI κ = (9 : Int32) from fun z => c9 (nI_inj (b := 9) (by omega) (by decide) z)), if_neg (by omega)]
theorem fol_step {κ s e : Nat} {c : Int32} (hκ : κ < 10) (hadd : FX1_addStep PL (nI κ) = some (c, PL1)) : (¬ c = -1 → FX2_follow (rdT RD 1 (nI s) (nI κ) (nI e)) PL 1 = some (stK κ, clT (rdT RD 1 (nI s) (nI κ) (nI e)) (nI κ) c, PL1)) ∧ (c = -1 → ∀ F P, FX2_note (clT (rdT RD 1 (nI s) (nI κ) (nI e)) (nI κ) c) 3 = some (ftT (clT (rdT RD 1 (nI s) (nI κ) (nI e)) (nI κ) c) F P) → FX2_follow (rdT RD 1 (nI s) (nI κ) (nI e)) PL 1 = some (stK κ, ftT (clT (rdT RD 1 (nI s) (nI κ) (nI e)) (nI κ) c) F P, PL1)) := by
  have base : ∀ r, (if c = -1 then (FX2_note (clT (rdT RD 1 (nI s) (nI κ) (nI e)) (nI κ) c) 3).bind (fun r10 => FX2_openStep_j54 (c, PL1) r10) else FX2_openStep_j54 (c, PL1) (clT (rdT RD 1 (nI s) (nI κ) (nI e)) (nI κ) c)) = some r → FX2_follow (rdT RD 1 (nI s) (nI κ) (nI e)) PL 1 = some r := fun r hr => by
    unfold FX2_follow
    refine (if_neg (show ¬ (1 : Int32) = 0 by decide)).trans ?_
    refine (if_pos rfl).trans ?_
    refine (if_pos rfl).trans ?_
    have : FX2_openStep (rdT RD 1 (nI s) (nI κ) (nI e)) PL = some r := by
      unfold FX2_openStep
      dsimp only [nm]
      refine (if_neg (show ¬ nI κ < 0 from nI_pos (by omega))).trans ?_
      refine (if_pos (show nI κ ≤ (9 : Int32) from nI_le (b := 9) (by omega) (by decide))).trans ?_
      exact bd_of hadd hr
    exact bd_of this rfl
  constructor
  · intro hc
    refine base _ ?_
    rw [if_neg hc]
    exact j54_eq hκ rfl
  · intro hc F P hn
    refine base _ ?_
    rw [if_pos hc, hn, Option.bind_some]
    exact j54_eq hκ rfl
theorem ref_word {κ s e k Wm : Nat} {t t' v : Int32} {v' : Int64} (hg : Mo_faultKind MO = 0) (hA : At N TP RD MO t t' v v' s e) (ht : t' = 1) (hv : FX10_sortOf v' = some (nI κ)) (hκ : κ < 10) (hk : k ≤ 12) : FX10_readsWorker_23 (nI Wm) (nI k, MO) = if k = 12 then (FX10_also MO 3 (nI s)).bind (fun r => FX10_readsWorker_j78 (nI Wm) (nI k, MO) (nI κ) r) else FX10_readsWorker_j78 (nI Wm) (nI k, MO) (nI κ) MO := by
  unfold FX10_readsWorker_23
  refine (if_pos (show Mo_token MO = 1 from hA.2.1.trans ht)).trans ?_
  show (FX10_sortOf (Mo_value MO)).bind _ = _
  rw [hA.2.2.2.1, hv, Option.bind_some]
  unfold FX10_readsWorker_j43
  refine (if_neg (nI_m1 κ (by omega))).trans ?_
  unfold FX10_readsWorker_j55
  refine bd_of (good_t hg) ?_
  refine (if_neg bI_t).trans ?_
  by_cases c : k = 12
  · rw [if_pos c]
    refine (if_pos (show nI k = (12 : Int32) by rw [c]; rfl)).trans ?_
    rw [hA.2.2.1]
  · rw [if_neg c]
    exact if_neg (show ¬ nI k = (12 : Int32) from fun z => c (nI_inj (b := 12) (by omega) (by decide) z))
/-- what of the reference's state the word of a step leaves as it was -/
def SameM (MO MO1 : MoT) : Prop := Mo_all MO1 = Mo_all MO ∧ Mo_named MO1 = Mo_named MO ∧ Mo_namedBy MO1 = Mo_namedBy MO ∧ Mo_namedAt MO1 = Mo_namedAt MO ∧ Mo_namedMany MO1 = Mo_namedMany MO
theorem Sy.cg {RD' : RdT} {MO' : MoT} {ln : Nat → Nat} (h : Sy RD PL MO ln) (hs : Rd_spots RD' = Rd_spots RD) (hm : SameM MO MO') : Sy RD' PL MO' ln := by
  obtain ⟨y1, y2, y3, y4, y5, y6, y7⟩ := h
  obtain ⟨m1, m2, m3, m4, m5⟩ := hm
  unfold Sy NamR
  rw [hs, m1, m2, m3, m4, m5]
  exact ⟨y1, y2, y3, y4, y5, y6, y7⟩
theorem MdW.cg {MO' : MoT} {ln : Nat → Nat} {W : Nat} (h : MdW PL MO ln W) (hm : Mo_all MO' = Mo_all MO) : MdW PL MO' ln W := by
  unfold MdW
  rw [hm]
  exact h
theorem word_stage (hT : TapM C N TP) {κ i s e k Wm : Nat} {v' : Int64} (hA : At N TP RD MO 1 1 (nI κ) v' s e) (hv : FX10_sortOf v' = some (nI κ)) (hκ : κ < 10) (hI : InvW MO0 RD PL MO i s Wm k) : ∃ RD1 PL1 MO1, itr (FX2_read_29 TP) (1, 1, nI i, RD, PL) = itr (FX2_read_29 TP) (stK κ, 1, nI (i + 1), RD1, PL1) ∧ FX10_readsWorker_23 (nI Wm) (nI k, MO) = FX10_readsWorker_j78 (nI Wm) (nI k, MO) (nI κ) MO1 ∧ Rd_next RD1 = nI e ∧ Rd_word RD1 = nI κ ∧ Rd_spots RD1 = Rd_spots RD ∧ Safe PL1 ∧ FaultR RD1 MO1 (s + 1) ∧ Mo_next MO1 = nI e ∧ Mo_faultKind MO1 = 0 ∧ KeepR MO0 MO1 ∧ SameM MO MO1 ∧ (Rd_fault RD1 = 0 → Rd_fault RD = 0 ∧ k < 12 ∧ Wm < 8 ∧ PL1 = asP PL Wm k (nI κ) ∧ Rd_cell RD1 = nI (12 * Wm + k)) := by
  obtain ⟨⟨j1, j2, j3, j4, j5, j6, j7⟩, jW, jw, jk, jS⟩ := hI
  have hN := hT.1
  have hle := hA.2.2.2.2.2.le
  have rw1 := ref_word (Wm := Wm) (k := k) j2 hA rfl hv hκ jk
  have hne : ¬ stK κ = -1 := by
    unfold stK
    split <;> decide
  by_cases hf : Rd_fault RD = 0
  · obtain ⟨ln, hy, hw, hl⟩ := jS hf
    have e1 := (hy.1 Wm hw.1).1
    rw [hl] at e1
    by_cases c : k < 12
    · have hadd := addStep_in (κ := nI κ) hw.2.1 hw.1 e1 c
      have hfo := (fol_step (RD := RD) (s := s) (e := e) hκ hadd).1 (nI_m1 _ (by omega))
      rw [if_neg (show ¬ k = 12 by omega)] at rw1
      have hg := r_go (st := 1) (i := nI i) rfl (by omega) hA.1 (fun z => absurd z.1 (by decide)) hfo hne
      exact ⟨_, _, MO, hg, rw1, rfl, rfl, rfl, as_safe j5 hw.1 c, j4.up (by omega), hA.2.2.2.2.1, j2, j3, ⟨rfl, rfl, rfl, rfl, rfl⟩, fun _ => ⟨hf, c, hw.1, rfl, rfl⟩⟩
    · have k12 : k = 12 := by omega
      have hadd := addStep_no (PL := PL) (κ := nI κ) (Or.inr ⟨Wm, hw.1, hw.2.1, by rw [e1, k12]⟩)
      obtain ⟨F, P, K, Q, g1, g2, g3, g4⟩ := note_also (RD := clT (rdT RD 1 (nI s) (nI κ) (nI e)) (nI κ) (-1)) (f := 3) (x := s) j4 (by omega) (Nat.le_refl _) (by omega) rfl
      have hfo := (fol_step (RD := RD) (s := s) (e := e) hκ hadd).2 rfl F P g1
      rw [if_pos k12, show FX10_also MO 3 (nI s) = _ from g2, Option.bind_some] at rw1
      have hg := r_go (st := 1) (i := nI i) rfl (by omega) hA.1 (fun z => absurd z.1 (by decide)) hfo hne
      exact ⟨_, _, _, hg, rw1, rfl, rfl, rfl, j5, g3, hA.2.2.2.2.1, j2, j3, ⟨rfl, rfl, rfl, rfl, rfl⟩, fun z => absurd z g4⟩
  · obtain ⟨c, PL2, hadd, hsafe⟩ := addStep_any (κ := nI κ) j5
    have rw2 : FX10_readsWorker_23 (nI Wm) (nI k, MO) = FX10_readsWorker_j78 (nI Wm) (nI k, MO) (nI κ) MO := by
      rw [rw1]
      by_cases k12 : k = 12
      · rw [if_pos k12, also_id j4 hf (Nat.le_refl _) (by omega), Option.bind_some]
      · rw [if_neg k12]
    have hfo : FX2_follow (rdT RD 1 (nI s) (nI κ) (nI e)) PL 1 = some (stK κ, clT (rdT RD 1 (nI s) (nI κ) (nI e)) (nI κ) c, PL2) := by
      by_cases z : c = -1
      · exact (fol_step (RD := RD) (s := s) (e := e) hκ hadd).2 z (Rd_fault RD) (Rd_spot RD) (note_id (RD := clT (rdT RD 1 (nI s) (nI κ) (nI e)) (nI κ) c) hf)
      · exact (fol_step (RD := RD) (s := s) (e := e) hκ hadd).1 z
    have hg := r_go (st := 1) (i := nI i) rfl (by omega) hA.1 (fun z => absurd z.1 (by decide)) hfo hne
    exact ⟨_, _, MO, hg, rw2, rfl, rfl, rfl, hsafe, j4.up (by omega), hA.2.2.2.2.1, j2, j3, ⟨rfl, rfl, rfl, rfl, rfl⟩, fun z => absurd z hf⟩
theorem set_any {n : Nat} {f : Nat → Int32} (hn : n < 2 ^ 31) (v x : Int32) : ∃ f', FX9_set n f v x = some f' ∧ (Nz n f → Nz n f') ∧ ∀ i, i < n → v = nI i → f' = upd f i x := by
  rcases in_or (n := n) v hn with ⟨k, hk, rfl⟩ | c
  · exact ⟨_, set_eq hk hn, fun h => h.up hk _, fun i hi e => by rw [nI_inj (by omega) (by omega) e]⟩
  · refine ⟨_, set_out c, fun h => h, fun i hi e => ?_⟩
    subst e
    rcases c with c | c
    · exact absurd c (nI_pos (by omega))
    · exact absurd c (nI_ge hi hn)
theorem cls_num {κ : Nat} {X : RdT} (hκ : κ < 10) (hw : Rd_word X = nI κ) (hS : Safe PL) : ∃ RD2 PL2, FX2_takeNumber_j39 PL X = some (4, RD2, PL2) ∧ Rd_next RD2 = Rd_next X ∧ Rd_fault RD2 = Rd_fault X ∧ Rd_spot RD2 = Rd_spot X ∧ Safe PL2 ∧ ∀ c, c < 96 → Rd_cell X = nI c → PL2 = sPl_numbers PL (upd (Pl_numbers PL) c (Rd_value X)) ∧ Rd_spots RD2 = upd (Rd_spots X) c (Rd_start X) := by
  obtain ⟨f1, a1, a2, a3⟩ := set_any (n := 96) (f := Pl_numbers PL) (by decide) (Rd_cell X) (Rd_value X)
  obtain ⟨f2, b1, b2, b3⟩ := set_any (n := 96) (f := Rd_spots X) (by decide) (Rd_cell X) (Rd_start X)
  refine ⟨sRd_spots X f2, sPl_numbers PL f1, ?_, rfl, rfl, rfl, ⟨hS.1, hS.2.1, hS.2.2.1, hS.2.2.2.1, a2 hS.2.2.2.2.1, hS.2.2.2.2.2.1, hS.2.2.2.2.2.2⟩, fun c hc e => ⟨by rw [a3 c hc e], b3 c hc e⟩⟩
  unfold FX2_takeNumber_j39
  dsimp only [nm]
  rw [hw, if_neg (show ¬ nI κ = (10 : Int32) from fun z => by have := nI_inj (b := 10) (by omega) (by decide) z; omega), if_neg (show ¬ nI κ = (11 : Int32) from fun z => by have := nI_inj (b := 11) (by omega) (by decide) z; omega), if_neg (show ¬ nI κ = (12 : Int32) from fun z => by have := nI_inj (b := 12) (by omega) (by decide) z; omega), if_neg (show ¬ nI κ = (14 : Int32) from fun z => by have := nI_inj (b := 14) (by omega) (by decide) z; omega)]
  exact bd_of a1 (bd_of b1 rfl)
end STAGE
