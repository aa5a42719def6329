/-! ===== the number of a step ===== -/
abbrev nmM (MO : MoT) (a b c : Nat → Int32) (d : Int32) : MoT := (MO.1, MO.2.1, MO.2.2.1, MO.2.2.2.1, MO.2.2.2.2.1, MO.2.2.2.2.2.1, MO.2.2.2.2.2.2.1, MO.2.2.2.2.2.2.2.1, MO.2.2.2.2.2.2.2.2.1, MO.2.2.2.2.2.2.2.2.2.1, MO.2.2.2.2.2.2.2.2.2.2.1, MO.2.2.2.2.2.2.2.2.2.2.2.1, MO.2.2.2.2.2.2.2.2.2.2.2.2.1, MO.2.2.2.2.2.2.2.2.2.2.2.2.2.1, MO.2.2.2.2.2.2.2.2.2.2.2.2.2.2.1, MO.2.2.2.2.2.2.2.2.2.2.2.2.2.2.2.1, MO.2.2.2.2.2.2.2.2.2.2.2.2.2.2.2.2.1, MO.2.2.2.2.2.2.2.2.2.2.2.2.2.2.2.2.2.1, a, b, c, d)
def aK (κ : Nat) : Nat := [1, 0, 0, 0, 0, 0, 0, 1].getD κ 0
def bK (κ : Nat) : Nat := [50, 5, 5, 3, 3, 7, 7, 99].getD κ 0
theorem ab_le : ∀ κ, κ < 8 → LEf κ = nI (aK κ) ∧ MOf κ = nI (bK κ) ∧ bK κ < 100 ∧ aK κ ≤ bK κ := by decide +kernel
def EqT (MO MO3 : MoT) : Prop := SameM MO MO3 ∧ Mo_faultKind MO3 = Mo_faultKind MO ∧ Mo_alsoKind MO3 = Mo_alsoKind MO ∧ Mo_alsoPlace MO3 = Mo_alsoPlace MO ∧ ∀ MO0, KeepR MO0 MO → KeepR MO0 MO3
section NUMB
variable {C : Nat → Nat} {N : Nat} {TP : TpT} {MO0 MO : MoT} {RD : RdT} {PL : PlT}
theorem next_op (hT : TapM C N TP) (hM : RefM C N MO) {p : Nat} (hp : p ≤ N) (h1 : Rd_next RD = nI p) (h2 : Mo_next MO = nI p) : ∃ MO3 t t' v v' s e, FX10_takes MO = some MO3 ∧ EqT MO MO3 ∧ p ≤ s ∧ At N TP RD MO3 t t' v v' s e := by
  obtain ⟨t, t', v, v', s, e, q1, q2, q3⟩ := next_at hT hM hp h1 h2
  exact ⟨_, t, t', v, v', s, e, q1, ⟨⟨rfl, rfl, rfl, rfl, rfl⟩, rfl, rfl, rfl, fun _ h => h⟩, q2, q3⟩
theorem EqT.fault {RD : RdT} {MO MO3 : MoT} {q : Nat} (h : EqT MO MO3) (hF : FaultR RD MO q) : FaultR RD MO3 q := by
  unfold FaultR
  rw [h.2.2.1, h.2.2.2.1]
  exact hF
theorem numberOf_eq {κ : Nat} {x : Int32} (hκ : κ < 8) (h5 : ¬ κ = 5) (h6 : ¬ κ = 6) : FX10_numberOf MO (nI κ) x = (FX10_numeral MO (nI (aK κ)) (nI (bK κ))).bind (fun r => some (r.1, r.2)) := by
  have hc : κ = 0 ∨ κ = 1 ∨ κ = 2 ∨ κ = 3 ∨ κ = 4 ∨ κ = 7 := by omega
  unfold FX10_numberOf
  rcases hc with rfl | rfl | rfl | rfl | rfl | rfl
  · exact if_pos (show nI 0 = (0 : Int32) by decide)
  · rw [if_neg (show ¬ nI 1 = (0 : Int32) by decide), if_neg (show ¬ nI 1 = (7 : Int32) by decide)]
    exact if_pos (show nI 1 = (1 : Int32) by decide)
  · rw [if_neg (show ¬ nI 2 = (0 : Int32) by decide), if_neg (show ¬ nI 2 = (7 : Int32) by decide), if_neg (show ¬ nI 2 = (1 : Int32) by decide)]
    exact if_pos (show nI 2 = (2 : Int32) by decide)
  · rw [if_neg (show ¬ nI 3 = (0 : Int32) by decide), if_neg (show ¬ nI 3 = (7 : Int32) by decide), if_neg (show ¬ nI 3 = (1 : Int32) by decide), if_neg (show ¬ nI 3 = (2 : Int32) by decide)]
    exact if_pos (show nI 3 = (3 : Int32) by decide)
  · rw [if_neg (show ¬ nI 4 = (0 : Int32) by decide), if_neg (show ¬ nI 4 = (7 : Int32) by decide), if_neg (show ¬ nI 4 = (1 : Int32) by decide), if_neg (show ¬ nI 4 = (2 : Int32) by decide), if_neg (show ¬ nI 4 = (3 : Int32) by decide)]
    exact if_pos (show nI 4 = (4 : Int32) by decide)
  · rw [if_neg (show ¬ nI 7 = (0 : Int32) by decide)]
    exact if_pos (show nI 7 = (7 : Int32) by decide)
theorem numberOf_stop {κ : Nat} {x : Int32} (h : κ = 8 ∨ κ = 9) : FX10_numberOf MO (nI κ) x = some (-1, MO) := by
  unfold FX10_numberOf
  rcases h with rfl | rfl
  · rw [if_neg (show ¬ nI 8 = (0 : Int32) by decide), if_neg (show ¬ nI 8 = (7 : Int32) by decide), if_neg (show ¬ nI 8 = (1 : Int32) by decide), if_neg (show ¬ nI 8 = (2 : Int32) by decide), if_neg (show ¬ nI 8 = (3 : Int32) by decide), if_neg (show ¬ nI 8 = (4 : Int32) by decide)]
    exact if_pos (show nI 8 = (8 : Int32) by decide)
  · rw [if_neg (show ¬ nI 9 = (0 : Int32) by decide), if_neg (show ¬ nI 9 = (7 : Int32) by decide), if_neg (show ¬ nI 9 = (1 : Int32) by decide), if_neg (show ¬ nI 9 = (2 : Int32) by decide), if_neg (show ¬ nI 9 = (3 : Int32) by decide), if_neg (show ¬ nI 9 = (4 : Int32) by decide), if_neg (show ¬ nI 9 = (8 : Int32) by decide)]
    exact if_pos (show nI 9 = (9 : Int32) by decide)
theorem numberOf_mate {κ : Nat} {x : Int32} (hg : Mo_faultKind MO = 0) (h : κ = 5 ∨ κ = 6) : FX10_numberOf MO (nI κ) x = if Mo_token MO = 2 ∧ ¬ 8 ≤ Mo_value MO then FX10_numberOf_j105 MO x 1 else FX10_numberOf_j105 MO x 0 := by
  have core : (FX10_isGood MO).bind (fun r11 => if bI r11 = 0 then FX10_numberOf_j105 MO x 0 else if Mo_token MO = 2 then (if 0 ≤ lg_cmp (Mo_value MO) 8 then FX10_numberOf_j105 MO x 0 else FX10_numberOf_j105 MO x 1) else FX10_numberOf_j105 MO x 0) = if Mo_token MO = 2 ∧ ¬ 8 ≤ Mo_value MO then FX10_numberOf_j105 MO x 1 else FX10_numberOf_j105 MO x 0 := by
    rw [good_t hg, Option.bind_some, if_neg bI_t]
    by_cases c1 : Mo_token MO = 2
    · rw [if_pos c1]
      by_cases c2 : (8 : Int64) ≤ Mo_value MO
      · rw [if_pos ((lg_cmp_ge _ _).mpr c2), if_neg (fun z => z.2 c2)]
      · rw [if_neg (fun z => c2 ((lg_cmp_ge _ _).mp z)), if_pos ⟨c1, c2⟩]
    · rw [if_neg c1, if_neg (fun z => c1 z.1)]
  rw [← core]
  unfold FX10_numberOf
  rcases h with rfl | rfl
  · rw [if_neg (show ¬ nI 5 = (0 : Int32) by decide), if_neg (show ¬ nI 5 = (7 : Int32) by decide), if_neg (show ¬ nI 5 = (1 : Int32) by decide), if_neg (show ¬ nI 5 = (2 : Int32) by decide), if_neg (show ¬ nI 5 = (3 : Int32) by decide), if_neg (show ¬ nI 5 = (4 : Int32) by decide), if_neg (show ¬ nI 5 = (8 : Int32) by decide), if_neg (show ¬ nI 5 = (9 : Int32) by decide)]
  · rw [if_neg (show ¬ nI 6 = (0 : Int32) by decide), if_neg (show ¬ nI 6 = (7 : Int32) by decide), if_neg (show ¬ nI 6 = (1 : Int32) by decide), if_neg (show ¬ nI 6 = (2 : Int32) by decide), if_neg (show ¬ nI 6 = (3 : Int32) by decide), if_neg (show ¬ nI 6 = (4 : Int32) by decide), if_neg (show ¬ nI 6 = (8 : Int32) by decide), if_neg (show ¬ nI 6 = (9 : Int32) by decide)]
theorem j105_0 {x val : Int32} {MO3 : MoT} (h : FX10_numeral MO 0 7 = some (val, MO3)) : FX10_numberOf_j105 MO x 0 = some (val, MO3) := by
  unfold FX10_numberOf_j105
  dsimp only [nm]
  refine bd_of h ?_
  exact if_pos rfl
theorem j105_1 {x val : Int32} {MO3 : MoT} {c : Nat} (h : FX10_numeral MO 0 7 = some (val, MO3)) (hc : Mo_namedMany MO3 = nI c) (hc4 : c < 400) : FX10_numberOf_j105 MO x 1 = some (val, nmM MO3 (upd (Mo_named MO3) c val) (upd (Mo_namedAt MO3) c (Mo_tokenAt MO)) (upd (Mo_namedBy MO3) c x) (nI (c + 1))) := by
  unfold FX10_numberOf_j105
  dsimp only [nm]
  refine bd_of h ?_
  obtain ⟨a0, a1, a2, a3, a4, a5, a6, a7, a8, a9, a10, a11, a12, a13, a14, a15, a16, a17, a18, a19, a20, a21⟩ := MO3
  have hc' : a21 = nI c := hc
  subst hc'
  refine (if_neg (show ¬ (1 : Int32) = 0 by decide)).trans ?_
  dsimp only [sMo_named, sMo_namedAt, sMo_namedBy, sMo_namedMany, Mo_named, Mo_namedAt, Mo_namedBy, Mo_namedMany]
  rw [ix_nI hc4 (by decide), ix_nI hc4 (by decide), ix_nI hc4 (by decide), nI_clamp (by omega), nI_1]
theorem step_ok {κ n : Nat} (hκ : κ < 8) (h : aK κ ≤ n ∧ n ≤ bK κ) : StepO (nI κ) (nI n) := by
  have hc : κ = 0 ∨ κ = 1 ∨ κ = 2 ∨ κ = 3 ∨ κ = 4 ∨ κ = 5 ∨ κ = 6 ∨ κ = 7 := by omega
  unfold StepO
  rcases hc with rfl | rfl | rfl | rfl | rfl | rfl | rfl | rfl
  · exact Or.inl ⟨rfl, n, h.2, rfl⟩
  · exact Or.inr (Or.inr (Or.inl ⟨Or.inl rfl, n, Nat.lt_succ_of_le h.2, rfl⟩))
  · exact Or.inr (Or.inr (Or.inl ⟨Or.inr rfl, n, Nat.lt_succ_of_le h.2, rfl⟩))
  · exact Or.inr (Or.inr (Or.inr (Or.inl ⟨Or.inl rfl, n, Nat.lt_succ_of_le h.2, rfl⟩)))
  · exact Or.inr (Or.inr (Or.inr (Or.inl ⟨Or.inr rfl, n, Nat.lt_succ_of_le h.2, rfl⟩)))
  · exact Or.inr (Or.inr (Or.inr (Or.inr (Or.inl ⟨Or.inl rfl, n, Nat.lt_succ_of_le h.2, rfl⟩))))
  · exact Or.inr (Or.inr (Or.inr (Or.inr (Or.inl ⟨Or.inr rfl, n, Nat.lt_succ_of_le h.2, rfl⟩))))
  · exact Or.inr (Or.inl ⟨rfl, n, h.2, rfl⟩)
/-- where the number is wanting -/
theorem numb_no (hT : TapM C N TP) {i s s0 e k κ Wm : Nat} {t t' v : Int32} {v' : Int64} (hA : At N TP RD MO t t' v v' s e) (ht : ¬ t = 2) (hκ : κ < 8) (hI : Inv0 MO0 RD PL MO i s) (hW8 : Wm ≤ 8) (hk : k ≤ 12) : RoundRes N TP MO0 2 i RD PL ((FX10_numberOf MO (nI κ) (nI Wm)).bind fun r11 => wrK (nI Wm) (nI k) (nI κ) r11.1 r11.2) s0 Wm := by
  obtain ⟨j1, j2, j3, j4, j5, j6, j7⟩ := hI
  have hN := hT.1
  have hle := hA.2.2.2.2.2.le
  obtain ⟨m1, m2⟩ := num_no (PL := PL) (a := aK κ) (b := bK κ) j2 hA ht
  have hn : FX10_numberOf MO (nI κ) (nI Wm) = some (nI (aK κ), bdM MO (nI s)) := by
    by_cases h56 : κ = 5 ∨ κ = 6
    · have ht' : ¬ Mo_token MO = 2 := by
        rw [hA.2.1]
        rcases hA.2.2.2.2.2.num with ⟨z, -⟩ | ⟨-, z⟩
        · exact absurd z ht
        · exact z
      rw [numberOf_mate j2 h56, if_neg (fun z => ht' z.1)]
      refine j105_0 ?_
      rcases h56 with rfl | rfl
      · exact m1
      · exact m1
    · rw [numberOf_eq hκ (by omega) (by omega), m1]
      rfl
  rw [hn, Option.bind_some]
  obtain ⟨k', MO', w1, w2, w3, w4⟩ := wr_bad (MO := bdM MO (nI s)) (Wm := Wm) (k := k) (κ := nI κ) (val := nI (aK κ)) rfl (bad_keep j3) hW8 hk
  exact Or.inl ⟨_, PL, MO', r_bad rfl (by omega) hA.1 (fun z => absurd z.2 (by decide)) m2 rfl, j5.2.2, Or.inr ⟨k', w1⟩, rfl, w2, w3, w4⟩
end NUMB
