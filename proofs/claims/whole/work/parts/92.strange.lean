/-! ===== strangers, on both sides ===== -/
section STRANGE
variable {RD : RdT} {PL : PlT} {MO : MoT} {W : Nat} {ln : Nat → Nat}
theorem tt_le (hy : ∀ w, w < 8 → ln w ≤ 12) {ki : Nat → Int32} : ∀ w, w ≤ 8 → ttN ki ln w ≤ 12 * w
  | 0, _ => Nat.le_refl _
  | w + 1, h => by
    have i1 := tt_le hy (ki := ki) w (by omega)
    have i2 : rcN ki w (ln w) ≤ ln w := pc_le _
    have i3 := hy w (by omega)
    show ttN ki ln w + rcN ki w (ln w) ≤ 12 * (w + 1)
    omega
theorem tt_zero {ki : Nat → Int32} (h : ∀ w, W ≤ w → w < 8 → ln w = 0) : ∀ d, W + d ≤ 8 → ttN ki ln (W + d) = ttN ki ln W
  | 0, _ => rfl
  | d + 1, hd => by
    show ttN ki ln (W + d) + rcN ki (W + d) (ln (W + d)) = _
    rw [tt_zero h d (by omega), h (W + d) (by omega) (by omega)]
    rfl
theorem tt_mono {ki : Nat → Int32} {w : Nat} : ∀ d, ttN ki ln w ≤ ttN ki ln (w + d)
  | 0 => Nat.le_refl _
  | d + 1 => Nat.le_trans (tt_mono d) (Nat.le_add_right _ _)
theorem rc_mono {ki : Nat → Int32} {w k : Nat} : ∀ d, rcN ki w k ≤ rcN ki w (k + d)
  | 0 => Nat.le_refl _
  | d + 1 => Nat.le_trans (rc_mono d) (Nat.le_add_right _ _)
theorem rc_t {ki : Nat → Int32} {w k : Nat} (h : nmB ki w k = true) : rcN ki w (k + 1) = rcN ki w k + 1 := by
  show pc (nmB ki w) k + (if nmB ki w k = true then 1 else 0) = _
  rw [if_pos h]
  rfl
theorem rc_f {ki : Nat → Int32} {w k : Nat} (h : nmB ki w k = false) : rcN ki w (k + 1) = rcN ki w k := by
  show pc (nmB ki w) k + (if nmB ki w k = true then 1 else 0) = _
  rw [if_neg (by rw [h]; decide)]
  rfl
theorem also5 {x : Int32} (h : Mo_alsoKind MO = 0) : FX10_also MO 5 x = some (alM MO 5 x) := by
  unfold FX10_also
  rw [h]
  exact if_pos (by decide)
theorem jud_out {j : Int32} {x : Int32} : FX10_judges_10 (j, alM MO 5 x) = some (Sum.inr (alM MO 5 x)) := by
  unfold FX10_judges_10
  by_cases c : Mo_namedMany MO ≤ j
  · exact if_pos c
  · exact (if_neg c).trans (if_neg (show ¬ (5 : Int32) = 0 by decide))
theorem jud_in (hy : Sy RD PL MO ln) (hm : MdL PL MO ln W) (ha : Mo_alsoKind MO = 0) {w k : Nat} (hw : w < W) (hk : k < ln w) (hn : nmB (Pl_kinds PL) w k = true) : FX10_judges_10 (nI (ttN (Pl_kinds PL) ln w + rcN (Pl_kinds PL) w k), MO) = if strB PL W w k = true then some (Sum.inl (nI (ttN (Pl_kinds PL) ln w + rcN (Pl_kinds PL) w k + 1), alM MO 5 (Rd_spots RD (12 * w + k)))) else some (Sum.inl (nI (ttN (Pl_kinds PL) ln w + rcN (Pl_kinds PL) w k + 1), MO)) := by
  have h8 := hm.1
  have hb := tt_le (fun w hw => (hy.1 w hw).2) (ki := Pl_kinds PL) 8 (Nat.le_refl _)
  have r1 := rc_t hn
  have r2 := rc_mono (ki := Pl_kinds PL) (w := w) (k := k + 1) (ln w - (k + 1))
  rw [show k + 1 + (ln w - (k + 1)) = ln w by omega] at r2
  have r3 : ttN (Pl_kinds PL) ln (w + 1) = ttN (Pl_kinds PL) ln w + rcN (Pl_kinds PL) w (ln w) := rfl
  have r4 := tt_mono (ki := Pl_kinds PL) (ln := ln) (w := w + 1) (7 - w)
  rw [show w + 1 + (7 - w) = 8 by omega] at r4
  obtain ⟨n1, n2, n3⟩ := hy.2.2.2.2.2.2.2 w (by omega) k hk hn
  have hmany : Mo_namedMany MO = nI (ttN (Pl_kinds PL) ln 8) := hy.2.2.2.2.2.2.1
  have hj1 : ttN (Pl_kinds PL) ln w + rcN (Pl_kinds PL) w k < ttN (Pl_kinds PL) ln 8 := by omega
  clear r1 r2 r3 r4
  generalize ttN (Pl_kinds PL) ln w + rcN (Pl_kinds PL) w k = j at n1 n2 n3 hj1 ⊢
  unfold FX10_judges_10
  rw [show Mo_namedMany (nI j, MO).2 = nI (ttN (Pl_kinds PL) ln 8) from hmany]
  refine (if_neg (nI_ge (show j < ttN (Pl_kinds PL) ln 8 by omega) (by omega))).trans ?_
  refine (if_pos ha).trans ?_
  refine (ix_nI (show j < 400 by omega) (by decide) _).trans ?_
  refine (ix_nI (n := 1422) (by decide) (by decide) _).trans ?_
  show (if Mo_all MO (Int32.toNatClampNeg (nI 1422)) ≤ Mo_named MO (nI j).toNatClampNeg then _ else _) = _
  rw [nI_clamp (show 1422 < 2 ^ 31 by decide), nI_clamp (show j < 2 ^ 31 by omega), hm.2.2.1, n1]
  unfold strB
  rw [hn, Bool.true_and]
  by_cases c : nI W ≤ Pl_numbers PL (12 * w + k)
  · rw [decide_eq_true (Or.inr (Int32.not_lt.mpr c)), if_pos rfl]
    refine (if_pos c).trans ?_
    refine (ix_nI (show j < 400 by omega) (by decide) _).trans ?_
    rw [n3]
    refine bd_of (also5 ha) ?_
    dsimp only [nm]
    rw [nI_1]
  · refine (if_neg c).trans ?_
    refine (ix_nI (show j < 400 by omega) (by decide) _).trans ?_
    refine (ix_nI (show j < 400 by omega) (by decide) _).trans ?_
    rw [n2]
    by_cases c2 : Pl_numbers PL (12 * w + k) = nI w
    · rw [decide_eq_true (Or.inl c2), if_pos rfl]
      refine (if_pos c2).trans ?_
      refine (ix_nI (show j < 400 by omega) (by decide) _).trans ?_
      rw [n3]
      refine bd_of (also5 ha) ?_
      dsimp only [nm]
      rw [nI_1]
    · rw [decide_eq_false (fun z => by rcases z with z | z; exact c2 z; exact c (Int32.not_lt.mp z)), if_neg (show ¬ (false = true) by decide)]
      refine (if_neg c2).trans ?_
      dsimp only [nm]
      rw [nI_1]
theorem seek_out {w : Nat} {X0 X : RdT} {k : Int32} (hw : w < 8) (hf : ¬ Rd_fault X = 0) : FX2_seekStrangers_15 PL (nI w, X0) (k, X) = some (Sum.inr X) := by
  unfold FX2_seekStrangers_15
  refine (ix_nI hw (by decide) _).trans ?_
  by_cases c : Pl_lengths PL (Int32.toNatClampNeg (nI w)) ≤ k
  · exact if_pos c
  · exact (if_neg c).trans (if_neg hf)
theorem inner_both (hy : Sy RD PL MO ln) (hm : MdL PL MO ln W) (ha : Mo_alsoKind MO = 0) (hf : Rd_fault RD = 0) {w : Nat} (hw : w < W) : ∀ d k, k + d = ln w → (itr (FX2_seekStrangers_15 PL (nI w, RD)) (nI k, RD) = some RD ∧ itr FX10_judges_10 (nI (ttN (Pl_kinds PL) ln w + rcN (Pl_kinds PL) w k), MO) = itr FX10_judges_10 (nI (ttN (Pl_kinds PL) ln (w + 1)), MO) ∧ ∀ j, k ≤ j → j < ln w → strB PL W w j = false) ∨ ∃ P, itr (FX2_seekStrangers_15 PL (nI w, RD)) (nI k, RD) = some (ftT RD 5 P) ∧ itr FX10_judges_10 (nI (ttN (Pl_kinds PL) ln w + rcN (Pl_kinds PL) w k), MO) = some (alM MO 5 P)
  | 0, k, hd => by
    have h8 := hm.1
    have e : k = ln w := by omega
    subst e
    refine Or.inl ⟨?_, rfl, fun j h1 h2 => by omega⟩
    apply itr_inr
    unfold FX2_seekStrangers_15
    refine (ix_nI (show w < 8 by omega) (by decide) _).trans ?_
    rw [nI_clamp (show w < 2 ^ 31 by omega), (hy.1 w (by omega)).1]
    have := (hy.1 w (by omega)).2
    exact if_pos (nI_le (Nat.le_refl _) (by omega))
  | d + 1, k, hd => by
    have h8 := hm.1
    have hk : k < ln w := by omega
    have s1 := seek_in hy hm hw hk RD hf
    have ih := inner_both hy hm ha hf hw d (k + 1) (by omega)
    cases hn : nmB (Pl_kinds PL) w k
    · have hs : strB PL W w k = false := by unfold strB; rw [hn]; rfl
      rw [hs, if_neg (by decide)] at s1
      rw [itr_inl s1]
      rw [rc_f hn] at ih
      rcases ih with ⟨a1, a2, a3⟩ | ⟨P, a1, a2⟩
      · refine Or.inl ⟨a1, a2, fun j h1 h2 => ?_⟩
        by_cases e : j = k
        · subst e
          exact hs
        · exact a3 j (by omega) h2
      · exact Or.inr ⟨P, a1, a2⟩
    · have s2 := jud_in hy hm ha hw hk hn
      rw [rc_t hn] at ih
      cases hs : strB PL W w k
      · rw [hs, if_neg (by decide)] at s1 s2
        rw [itr_inl s1, itr_inl s2]
        rcases ih with ⟨a1, a2, a3⟩ | ⟨P, a1, a2⟩
        · refine Or.inl ⟨a1, a2, fun j h1 h2 => ?_⟩
          by_cases e : j = k
          · subst e
            exact hs
          · exact a3 j (by omega) h2
        · exact Or.inr ⟨P, a1, a2⟩
      · rw [hs, if_pos rfl] at s1 s2
        right
        refine ⟨Rd_spots RD (12 * w + k), ?_, ?_⟩
        · rw [itr_inl s1]
          exact itr_inr (seek_out (by omega) (show ¬ (5 : Int32) = 0 by decide))
        · rw [itr_inl s2]
          exact itr_inr jud_out
theorem outer_done (hm : Pl_workers PL = nI W) (hW : W ≤ 8) {X : RdT} (hf : ¬ Rd_fault X = 0) : ∀ d w, w + d = W → itr (FX2_seekStrangers_2 PL) (nI w, X) = some X
  | 0, w, hd => by
    apply itr_inr
    unfold FX2_seekStrangers_2
    rw [hm]
    exact if_pos (nI_le (by omega) (by omega))
  | d + 1, w, hd => by
    have f : FX2_seekStrangers_2 PL (nI w, X) = some (Sum.inl (nI (w + 1), X)) := by
      unfold FX2_seekStrangers_2
      rw [hm]
      refine (if_neg (nI_ge (by omega) (by omega))).trans ?_
      refine bd_of (itr_inr (seek_out (by omega) hf)) ?_
      dsimp only [nm]
      rw [nI_1]
    rw [itr_inl f]
    exact outer_done hm hW hf d (w + 1) (by omega)
theorem outer_both (hy : Sy RD PL MO ln) (hm : MdL PL MO ln W) (ha : Mo_alsoKind MO = 0) (hf : Rd_fault RD = 0) : ∀ d w, w + d = W → (itr (FX2_seekStrangers_2 PL) (nI w, RD) = some RD ∧ itr FX10_judges_10 (nI (ttN (Pl_kinds PL) ln w), MO) = some MO ∧ ∀ x, w ≤ x → x < W → ∀ j, j < ln x → strB PL W x j = false) ∨ ∃ P, itr (FX2_seekStrangers_2 PL) (nI w, RD) = some (ftT RD 5 P) ∧ itr FX10_judges_10 (nI (ttN (Pl_kinds PL) ln w), MO) = some (alM MO 5 P)
  | 0, w, hd => by
    have h8 := hm.1
    have e : w = W := by omega
    subst e
    refine Or.inl ⟨?_, ?_, fun x h1 h2 => by omega⟩
    · apply itr_inr
      unfold FX2_seekStrangers_2
      rw [hm.2.1]
      exact if_pos (nI_le (Nat.le_refl _) (by omega))
    · apply itr_inr
      have hb := tt_le (fun w hw => (hy.1 w hw).2) (ki := Pl_kinds PL) 8 (Nat.le_refl _)
      have e8 := tt_zero (ki := Pl_kinds PL) hm.2.2.2.2.2 (8 - w) (by omega)
      rw [show w + (8 - w) = 8 by omega] at e8
      unfold FX10_judges_10
      rw [show Mo_namedMany (nI (ttN (Pl_kinds PL) ln w), MO).2 = nI (ttN (Pl_kinds PL) ln 8) from hy.2.2.2.2.2.2.1]
      exact if_pos (nI_le (by omega) (by omega))
  | d + 1, w, hd => by
    have h8 := hm.1
    have base := inner_both hy hm ha hf (w := w) (by omega) (ln w) 0 (by omega)
    rw [show ttN (Pl_kinds PL) ln w + rcN (Pl_kinds PL) w 0 = ttN (Pl_kinds PL) ln w from rfl] at base
    rcases base with ⟨a1, a2, a3⟩ | ⟨P, a1, a2⟩
    · have f : FX2_seekStrangers_2 PL (nI w, RD) = some (Sum.inl (nI (w + 1), RD)) := by
        unfold FX2_seekStrangers_2
        rw [hm.2.1]
        refine (if_neg (nI_ge (by omega) (by omega))).trans ?_
        refine bd_of a1 ?_
        dsimp only [nm]
        rw [nI_1]
      rw [itr_inl f, a2]
      rcases outer_both hy hm ha hf d (w + 1) (by omega) with ⟨b1, b2, b3⟩ | ⟨P, b1, b2⟩
      · refine Or.inl ⟨b1, b2, fun x h1 h2 j hj => ?_⟩
        by_cases e : x = w
        · subst e
          exact a3 j (by omega) hj
        · exact b3 x (by omega) h2 j hj
      · exact Or.inr ⟨P, b1, b2⟩
    · have f : FX2_seekStrangers_2 PL (nI w, RD) = some (Sum.inl (nI (w + 1), ftT RD 5 P)) := by
        unfold FX2_seekStrangers_2
        rw [hm.2.1]
        refine (if_neg (nI_ge (by omega) (by omega))).trans ?_
        refine bd_of a1 ?_
        dsimp only [nm]
        rw [nI_1]
      rw [itr_inl f, a2]
      exact Or.inr ⟨P, outer_done hm.2.1 h8 (show ¬ (5 : Int32) = 0 by decide) d (w + 1) (by omega), rfl⟩
/-- no strangers: a good plan -/
theorem plan_ok (hy : Sy RD PL MO ln) (hm : MdL PL MO ln W) (hs : ∀ x, x < W → ∀ j, j < ln x → strB PL W x j = false) : PlanOK PL W ln := by
  have h8 := hm.1
  refine ⟨hm.2.1, h8, fun w hw => ⟨(hy.1 w (by omega)).1, hm.2.2.2.2.1 w hw, (hy.1 w (by omega)).2⟩, fun w hw k hk => ?_⟩
  have hst := (hy.2.1 w (by omega) k hk).2.2
  have hsB := hs w hw k hk
  rcases hst with ⟨a, x, hx, e⟩ | ⟨a, x, hx, e⟩ | ⟨a, x, hx, e⟩ | ⟨a, x, hx, e⟩ | ⟨a, x, hx, e⟩ | ⟨a, e⟩
  · exact Or.inl ⟨a, x, hx, e⟩
  · exact Or.inr (Or.inl ⟨a, x, hx, e⟩)
  · exact Or.inr (Or.inr (Or.inl ⟨a, x, hx, e⟩))
  · exact Or.inr (Or.inr (Or.inr (Or.inl ⟨a, x, hx, e⟩)))
  · refine Or.inr (Or.inr (Or.inr (Or.inr (Or.inl ⟨a, x, ?_, ?_, e⟩))))
    · unfold strB nmB at hsB
      rw [decide_eq_true a, Bool.true_and] at hsB
      have := of_decide_eq_false hsB
      apply Classical.byContradiction
      intro z
      exact this (Or.inr (by rw [e]; exact nI_nlt (by omega) (by omega)))
    · unfold strB nmB at hsB
      rw [decide_eq_true a, Bool.true_and] at hsB
      have := of_decide_eq_false hsB
      intro z
      exact this (Or.inl (by rw [e, z]))
  · exact Or.inr (Or.inr (Or.inr (Or.inr (Or.inr ⟨a, e⟩))))
end STRANGE
