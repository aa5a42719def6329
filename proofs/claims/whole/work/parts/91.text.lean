/-! ===== the text, to its end ===== -/
section TEXT
variable {C : Nat → Nat} {N : Nat} {TP : TpT} {MO0 MO : MoT} {RD : RdT} {PL : PlT}
theorem line_both (hT : TapM C N TP) (hM : RefM C N MO0) {i s e : Nat} {t t' v : Int32} {v' : Int64} (hA : At N TP RD MO t t' v v' s e) (ht0 : ¬ t = 0) (hI : InvL MO0 RD PL MO i s) : LineRes N TP MO0 0 i RD PL (FX10_readsLine MO) s := by
  have hN := hT.1
  have hle := hA.2.2.2.2.2.le
  obtain ⟨wi, wi1, wi2, wi3, wi4, wi5⟩ := at_word hA
  rw [line_ref hI.1.2.1 hA wi5]
  have w1 : ∀ k, wi = some k → t = 1 ∧ t' = 1 ∧ v = nI k := fun k hk => by
    have ht : t = 1 := by
      apply Classical.byContradiction
      intro z
      rw [wi3 z] at hk
      cases hk
    exact ⟨ht, wi4.mpr ht, by rw [wi2 ht, hk]; rfl⟩
  by_cases c10 : wi = some 10
  · obtain ⟨rfl, rfl, rfl⟩ := w1 10 c10
    rw [if_pos c10]
    exact line_win hT hM hA hI
  rw [if_neg c10]
  by_cases c11 : wi = some 11
  · obtain ⟨rfl, rfl, rfl⟩ := w1 11 c11
    rw [if_pos c11]
    exact line_gra hT hM hA hI
  rw [if_neg c11]
  by_cases c12 : wi = some 12
  · obtain ⟨rfl, rfl, rfl⟩ := w1 12 c12
    rw [if_pos c12]
    exact line_pipe hT hM hA hI
  rw [if_neg c12]
  by_cases c13 : wi = some 13
  · obtain ⟨rfl, rfl, rfl⟩ := w1 13 c13
    rw [if_pos c13]
    exact line_worker hT hM hA hI
  rw [if_neg c13]
  obtain ⟨⟨j1, j2, j3, j4, j5, j6, j7⟩, jS⟩ := hI
  rw [wrong_eq j2, Option.bind_some, hA.2.2.1]
  have hfo : ∃ RD2, FX2_follow (rdT RD t (nI s) v (nI e)) PL 0 = some (-1, RD2, PL) ∧ Rd_start RD2 = nI s := by
    unfold FX2_follow
    rw [if_pos rfl]
    by_cases c : t = 1
    · have ho : FX2_openLine (rdT RD t (nI s) v (nI e)) PL = some (-1, wdT (rdT RD t (nI s) v (nI e)) v, PL) := by
        unfold FX2_openLine
        dsimp only [nm]
        show (if v = 10 ∨ v = 11 ∨ v = 12 then _ else if v = 13 then _ else _) = _
        have hne : ∀ m, 10 ≤ m → m < 14 → ¬ wi = some m → ¬ v = nI m := fun m h1 h2 h3 z => by
          rw [wi2 c] at z
          cases hwi : wi with
          | none =>
            rw [hwi] at z
            exact nI_m1 m (by omega) z.symm
          | some l =>
            rw [hwi] at z
            have hl := wi1 l hwi
            have := nI_inj (a := l) (b := m) (by omega) (by omega) z
            exact h3 (by rw [hwi, this])
        rw [if_neg (show ¬ (v = 10 ∨ v = 11 ∨ v = 12) from fun z => by
          rcases z with z | z | z
          · exact hne 10 (by omega) (by omega) c10 z
          · exact hne 11 (by omega) (by omega) c11 z
          · exact hne 12 (by omega) (by omega) c12 z), if_neg (show ¬ v = 13 from hne 13 (by omega) (by omega) c13)]
      exact ⟨_, (if_pos c).trans (bd_of ho rfl), rfl⟩
    · exact ⟨_, if_neg c, rfl⟩
  obtain ⟨RD2, f1, f2⟩ := hfo
  exact Or.inl ⟨_, PL, _, r_bad rfl (by omega) hA.1 (fun z => ht0 z.1) f1 f2, j5.2.2, tl_bad rfl, rfl, rfl, rfl, j3⟩
/-- how a text ends, ahead of the strangers -/
def TextRes (TP : TpT) (MO0 : MoT) (i : Nat) (RD : RdT) (PL : PlT) (MO : MoT) : Prop := ∃ RDf PLf MO', itr (FX2_read_29 TP) (0, 1, nI i, RD, PL) = some (RDf, PLf) ∧ itr FX10_text_49 MO = some MO' ∧ NormP PLf ∧ (Bad MO0 RDf MO' ∨ (Mo_faultKind MO' = 0 ∧ KeepR MO0 MO' ∧ (∃ q, FaultR RDf MO' q) ∧ Safe PLf ∧ (∃ nm, Mo_namedMany MO' = nI nm ∧ nm ≤ 400) ∧ (Rd_fault RDf = 0 → ∃ W ln, Sy RDf PLf MO' ln ∧ MdL PLf MO' ln W)))
theorem text_loop (hT : TapM C N TP) (hM : RefM C N MO0) : ∀ d (i s e : Nat) (t t' v : Int32) (v' : Int64) (RD : RdT) (PL : PlT) (MO : MoT), N ≤ s + d → At N TP RD MO t t' v v' s e → InvL MO0 RD PL MO i s → TextRes TP MO0 i RD PL MO
  | d, i, s, e, t, t', v, v', RD, PL, MO, hd, hA, hI => by
    have hN := hT.1
    have hle := hA.2.2.2.2.2.le
    by_cases c : t = 0
    · have c' : t' = 0 := by
        rcases hA.2.2.2.2.2.zero with ⟨-, z⟩ | ⟨z, -⟩
        · exact z
        · exact absurd c z
      subst c c'
      obtain ⟨⟨j1, j2, j3, j4, j5, j6, j7⟩, jS⟩ := hI
      have f1 : FX10_text_49 MO = some (Sum.inr MO) := by
        unfold FX10_text_49
        rw [good_t j2, Option.bind_some, if_neg bI_t]
        exact if_pos hA.2.1
      obtain ⟨nm, y1, y2⟩ := j6
      exact ⟨_, _, MO, r_end rfl (by omega) hA.1, itr_inr f1, j5.2.2, Or.inr ⟨j2, j3, ⟨s, j4⟩, j5, ⟨nm, y1, by omega⟩, jS⟩⟩
    · have c' : ¬ t' = 0 := by
        rcases hA.2.2.2.2.2.zero with ⟨z, -⟩ | ⟨-, z⟩
        · exact absurd z c
        · exact z
      have hg := hI.1.2.1
      have f0 : FX10_text_49 MO = (FX10_readsLine MO).bind (fun r14 => some (Sum.inl r14)) := by
        unfold FX10_text_49
        rw [good_t hg, Option.bind_some, if_neg bI_t]
        exact if_neg (fun z => c' (hA.2.1.symm.trans z))
      rcases line_both hT hM hA c hI with ⟨RDf, PLf, MO', a1, a2, a3, a4⟩ | ⟨i2, RD2, PL2, MO2, t2, t2', v2, v2', s2, e2, a1, a2, a3, a4, a5⟩
      · rw [a3, Option.bind_some] at f0
        have f1 : FX10_text_49 MO' = some (Sum.inr MO') := by
          unfold FX10_text_49
          rw [good_f a4.2.1, Option.bind_some]
          exact if_pos bI_f
        exact ⟨RDf, PLf, MO', a1, (itr_inl f0).trans (itr_inr f1), a2, Or.inl a4⟩
      · rw [a2, Option.bind_some] at f0
        have hle2 := a3.2.2.2.2.2.le
        match d, hd with
        | 0, hd => exact absurd hle2.1 (by omega)
        | d + 1, hd =>
          obtain ⟨RDf, PLf, MO', b1, b2, b3⟩ := text_loop hT hM d i2 s2 e2 t2 t2' v2 v2' RD2 PL2 MO2 (by omega) a3 a4
          exact ⟨RDf, PLf, MO', a1.trans b1, (itr_inl f0).trans b2, b3⟩
end TEXT
/-! ===== strangers ===== -/
section STRANGERS
variable {RD : RdT} {PL : PlT} {MO : MoT} {W : Nat} {ln : Nat → Nat}
/-- the j-th step that names a worker names one that it can't -/
def strB (PL : PlT) (W w k : Nat) : Bool := nmB (Pl_kinds PL) w k && decide (Pl_numbers PL (12 * w + k) = nI w ∨ ¬ Pl_numbers PL (12 * w + k) < nI W)
theorem plan_kind (hy : Sy RD PL MO ln) (hm : MdL PL MO ln W) {w k : Nat} (hw : w < W) (hk : k < ln w) : FX1_kindAt PL (nI w) (nI k) = some (Pl_kinds PL (12 * w + k)) ∧ FX1_numberAt PL (nI w) (nI k) = some (Pl_numbers PL (12 * w + k)) ∧ FX1_cellOf PL (nI w) (nI k) = some (nI (12 * w + k)) := by
  have h8 := hm.1
  have h1 := hy.1 w (by omega)
  exact ⟨kindAt_eq hm.2.1 h8 hw h1.1 h1.2 hk, numberAt_eq hm.2.1 h8 hw h1.1 h1.2 hk, cellOf_eq hm.2.1 h8 hw h1.1 h1.2 hk⟩
theorem seek_in (hy : Sy RD PL MO ln) (hm : MdL PL MO ln W) {w k : Nat} (hw : w < W) (hk : k < ln w) (X : RdT) (hf : Rd_fault X = 0) : FX2_seekStrangers_15 PL (nI w, X) (nI k, X) = if strB PL W w k = true then some (Sum.inl (nI (k + 1), ftT X 5 (Rd_spots X (12 * w + k)))) else some (Sum.inl (nI (k + 1), X)) := by
  have h8 := hm.1
  have h1 := hy.1 w (by omega)
  obtain ⟨q1, q2, q3⟩ := plan_kind hy hm hw hk
  unfold FX2_seekStrangers_15
  refine (ix_nI (show w < 8 by omega) (by decide) _).trans ?_
  rw [nI_clamp (show w < 2 ^ 31 by omega), h1.1]
  refine (if_neg (nI_ge hk (by omega))).trans ?_
  refine (if_pos hf).trans ?_
  refine bd_of q1 ?_
  refine bd_of q2 ?_
  have j1 : FX2_seekStrangers_j72 PL (nI w, X) (nI k, X) (Pl_numbers PL (12 * w + k)) 1 = if Pl_numbers PL (12 * w + k) = nI w ∨ ¬ Pl_numbers PL (12 * w + k) < nI W then some (Sum.inl (nI (k + 1), ftT X 5 (Rd_spots X (12 * w + k)))) else some (Sum.inl (nI (k + 1), X)) := by
    have tell : ∀ Z : RdT, Rd_spots Z = Rd_spots X → FX9_at 96 (Rd_spots Z) (nI (12 * w + k)) = some (Rd_spots X (12 * w + k)) := fun Z hZ => by rw [hZ, at_eq (by omega) (by decide)]
    unfold FX2_seekStrangers_j72
    refine (if_neg (show ¬ (1 : Int32) = 0 by decide)).trans ?_
    by_cases c : Pl_numbers PL (12 * w + k) = nI w
    · rw [if_pos (Or.inl c)]
      refine (if_pos c).trans ?_
      dsimp only [nm]
      refine bd_of q3 ?_
      refine bd_of (tell _ rfl) ?_
      rw [nI_1]
    · refine (if_neg c).trans ?_
      rw [hm.2.1]
      by_cases c2 : Pl_numbers PL (12 * w + k) < nI W
      · rw [if_neg (show ¬ (Pl_numbers PL (12 * w + k) = nI w ∨ ¬ Pl_numbers PL (12 * w + k) < nI W) from fun z => by rcases z with z | z; exact c z; exact z c2)]
        refine (if_pos c2).trans ?_
        dsimp only [nm]
        rw [nI_1]
      · rw [if_pos (Or.inr c2)]
        refine (if_neg c2).trans ?_
        dsimp only [nm]
        refine bd_of q3 ?_
        refine bd_of (tell _ rfl) ?_
        rw [nI_1]
  have j0 : FX2_seekStrangers_j72 PL (nI w, X) (nI k, X) (Pl_numbers PL (12 * w + k)) 0 = some (Sum.inl (nI (k + 1), X)) := by
    unfold FX2_seekStrangers_j72
    refine (if_pos rfl).trans ?_
    dsimp only [nm]
    rw [nI_1]
  unfold strB nmB
  by_cases c5 : Pl_kinds PL (12 * w + k) = nI 5
  · refine (if_pos c5).trans ?_
    rw [j1, decide_eq_true (Or.inl c5), Bool.true_and]
    by_cases z : Pl_numbers PL (12 * w + k) = nI w ∨ ¬ Pl_numbers PL (12 * w + k) < nI W
    · rw [if_pos z, decide_eq_true z, if_pos rfl]
    · rw [if_neg z, decide_eq_false z, if_neg (by decide)]
  · refine (if_neg c5).trans ?_
    by_cases c6 : Pl_kinds PL (12 * w + k) = nI 6
    · refine (if_pos c6).trans ?_
      rw [j1, decide_eq_true (Or.inr c6), Bool.true_and]
      by_cases z : Pl_numbers PL (12 * w + k) = nI w ∨ ¬ Pl_numbers PL (12 * w + k) < nI W
      · rw [if_pos z, decide_eq_true z, if_pos rfl]
      · rw [if_neg z, decide_eq_false z, if_neg (by decide)]
    · refine (if_neg c6).trans ?_
      rw [j0, decide_eq_false (fun z => by rcases z with z | z; exact c5 z; exact c6 z)]
      rfl
end STRANGERS
