/-! ===== the first state ===== -/
def fV (i : Nat) : Int32 := if i = 1 then 4 else if i = 2 then 6 else if 3 ≤ i ∧ i < 7 then 1 else if 240 ≤ i ∧ i < 246 then -1 else 0
def fsA (all : Nat → Int32) (β : Nat) : Nat → Int32 := fun j => if β ≤ j ∧ j < β + 474 then fV (j - β) else all j
def flA (all : Nat → Int32) (a n : Nat) (v : Int32) : Nat → Int32 := fun j => if a ≤ j ∧ j < a + n then v else all j
theorem fl_s {all : Nat → Int32} {a n : Nat} {v : Int32} : upd (flA all a n v) (a + n) v = flA all a (n + 1) v := by
  funext j
  show (if j = a + n then v else (if a ≤ j ∧ j < a + n then v else all j)) = if a ≤ j ∧ j < a + (n + 1) then v else all j
  by_cases e : j = a + n
  · rw [if_pos e, if_pos (by omega)]
  · rw [if_neg e]
    by_cases c : a ≤ j ∧ j < a + n
    · rw [if_pos c, if_pos (by omega)]
    · rw [if_neg c, if_neg (by omega)]
theorem fl_0 {all : Nat → Int32} {a : Nat} {v : Int32} : flA all a 0 v = all := by
  funext j
  exact if_neg (by omega)
theorem M_fill1 {MO : MoT} {β : Nat} (hβ : β + 474 ≤ 9519) : itr (FX10_firsts_2 (nI β)) ((0 : Int32), MO) = some (sMo_all MO (flA (Mo_all MO) β 474 0)) := by
  have := itr_chain (f := FX10_firsts_2 (nI β)) (e := sMo_all MO (flA (Mo_all MO) β 474 0)) (fun i => (nI i, sMo_all MO (flA (Mo_all MO) β i 0))) 474 (fun i hi => by
    unfold FX10_firsts_2
    refine (if_neg (show ¬ (474 : Int32) ≤ nI i from nI_ge (b := 474) hi (by decide))).trans ?_
    dsimp only [nm]
    rw [nI_add, ix_nI (by omega) (by decide), nI_clamp (by omega), nI_1]
    exact congrArg (fun z => some (Sum.inl (nI (i + 1), sMo_all MO z))) fl_s) (by
    unfold FX10_firsts_2
    exact if_pos (show (474 : Int32) ≤ nI 474 by decide))
  rw [show (nI 0, sMo_all MO (flA (Mo_all MO) β 0 0)) = ((0 : Int32), MO) from by rw [fl_0]; rfl] at this
  exact this
theorem M_fill2 {MO : MoT} {β : Nat} (hβ : β + 474 ≤ 9519) : itr (FX10_firsts_45 (nI β)) ((0 : Int32), MO) = some (sMo_all MO (flA (Mo_all MO) (β + 3) 4 1)) := by
  have := itr_chain (f := FX10_firsts_45 (nI β)) (e := sMo_all MO (flA (Mo_all MO) (β + 3) 4 1)) (fun i => (nI i, sMo_all MO (flA (Mo_all MO) (β + 3) i 1))) 4 (fun i hi => by
    unfold FX10_firsts_45
    refine (if_neg (show ¬ (4 : Int32) ≤ nI i from nI_ge (b := 4) hi (by decide))).trans ?_
    dsimp only [nm]
    rw [show nI β + 3 + nI i = nI (β + 3 + i) from nI_a2 β 3 i, ix_nI (by omega) (by decide), nI_clamp (by omega), nI_1]
    exact congrArg (fun z => some (Sum.inl (nI (i + 1), sMo_all MO z))) fl_s) (by
    unfold FX10_firsts_45
    exact if_pos (show (4 : Int32) ≤ nI 4 by decide))
  rw [show (nI 0, sMo_all MO (flA (Mo_all MO) (β + 3) 0 1)) = ((0 : Int32), MO) from by rw [fl_0]; rfl] at this
  exact this
theorem M_fill3 {MO : MoT} {β : Nat} (hβ : β + 474 ≤ 9519) : itr (FX10_firsts_69 (nI β)) ((0 : Int32), MO) = some (sMo_all MO (flA (Mo_all MO) (β + 240) 6 (-1))) := by
  have := itr_chain (f := FX10_firsts_69 (nI β)) (e := sMo_all MO (flA (Mo_all MO) (β + 240) 6 (-1))) (fun i => (nI i, sMo_all MO (flA (Mo_all MO) (β + 240) i (-1)))) 6 (fun i hi => by
    unfold FX10_firsts_69
    refine (if_neg (show ¬ (6 : Int32) ≤ nI i from nI_ge (b := 6) hi (by decide))).trans ?_
    dsimp only [nm]
    rw [show nI β + 240 + nI i = nI (β + 240 + i) from nI_a2 β 240 i, ix_nI (by omega) (by decide), nI_clamp (by omega), nI_1]
    exact congrArg (fun z => some (Sum.inl (nI (i + 1), sMo_all MO z))) fl_s) (by
    unfold FX10_firsts_69
    exact if_pos (show (6 : Int32) ≤ nI 6 by decide))
  rw [show (nI 0, sMo_all MO (flA (Mo_all MO) (β + 240) 0 (-1))) = ((0 : Int32), MO) from by rw [fl_0]; rfl] at this
  exact this
theorem M_firsts {MO : MoT} {β : Nat} (hβ : β + 474 ≤ 9519) : FX10_firsts MO (nI β) = some (sMo_all MO (fsA (Mo_all MO) β)) := by
  have e : flA (flA (upd (upd (flA (Mo_all MO) β 474 0) (β + 1) 4) (β + 2) 6) (β + 3) 4 1) (β + 240) 6 (-1) = fsA (Mo_all MO) β := by
    funext j
    show (if β + 240 ≤ j ∧ j < β + 240 + 6 then (-1 : Int32) else if β + 3 ≤ j ∧ j < β + 3 + 4 then 1 else if j = β + 2 then 6 else if j = β + 1 then 4 else if β ≤ j ∧ j < β + 474 then 0 else Mo_all MO j) = if β ≤ j ∧ j < β + 474 then fV (j - β) else Mo_all MO j
    unfold fV
    by_cases c1 : β + 240 ≤ j ∧ j < β + 240 + 6
    · rw [if_pos c1, if_pos (by omega), if_neg (by omega), if_neg (by omega), if_neg (by omega), if_pos (by omega)]
    rw [if_neg c1]
    by_cases c2 : β + 3 ≤ j ∧ j < β + 3 + 4
    · rw [if_pos c2, if_pos (by omega), if_neg (by omega), if_neg (by omega), if_pos (by omega)]
    rw [if_neg c2]
    by_cases c3 : j = β + 2
    · rw [if_pos c3, if_pos (by omega), if_neg (by omega), if_pos (by omega)]
    rw [if_neg c3]
    by_cases c4 : j = β + 1
    · rw [if_pos c4, if_pos (by omega), if_pos (by omega)]
    rw [if_neg c4]
    by_cases c5 : β ≤ j ∧ j < β + 474
    · rw [if_pos c5, if_pos c5, if_neg (by omega), if_neg (by omega), if_neg (by omega), if_neg (by omega)]
    · rw [if_neg c5, if_neg c5]
  unfold FX10_firsts
  refine bd_of (M_fill1 hβ) ?_
  dsimp only [nm]
  rw [show nI β + 1 = nI (β + 1) from nI_add β 1, show nI β + 2 = nI (β + 2) from nI_add β 2, ix_nI (by omega) (by decide), ix_nI (by omega) (by decide), nI_clamp (by omega), nI_clamp (by omega)]
  refine bd_of (M_fill2 hβ) ?_
  refine bd_of (M_fill3 hβ) ?_
  exact congrArg (fun z => some (sMo_all MO z)) e
theorem seg_first {all : Nat → Int32} {β : Nat} {ln : Nat → Nat} : PlanOK Pl0 0 ln ∧ Seg 0 ln Pl0 Sc0 Sk0 (fsA all β) β := by
  have hf : ∀ i, i < 474 → fsA all β (β + i) = fV i := fun i hi => by
    rw [show fsA all β (β + i) = fV (β + i - β) from if_pos (by omega), show β + i - β = i by omega]
  have hz : ∀ i x, x = β + i → i < 474 → fsA all β x = fV i := by
    rintro i _ rfl hi
    exact hf i hi
  have z0 : ∀ i x, x = β + i → i < 474 → 7 ≤ i → ¬ (240 ≤ i ∧ i < 246) → fsA all β x = 0 := fun i x hx hi h7 h2 => by
    rw [hz i x hx hi]
    unfold fV
    rw [if_neg (by omega), if_neg (by omega), if_neg (by omega), if_neg h2]
  refine ⟨⟨rfl, by omega, fun w hw => by omega, fun w hw => by omega⟩, ⟨fun w hw => by omega, fun x hx => Or.inl (if_pos hx), ⟨4, by omega, rfl⟩, 6, by omega, rfl⟩, ⟨hz 0 _ rfl (by omega), fun p hp => ?_, fun w hw => z0 (7 + w) _ (by omega) (by omega) (by omega) (by omega), fun w hw => by omega⟩, ⟨hz 1 _ rfl (by omega), hz 2 _ rfl (by omega), z0 207 _ rfl (by omega) (by omega) (by omega), fun w hw => z0 (208 + w) _ (by omega) (by omega) (by omega) (by omega), fun w hw => z0 (216 + w) _ (by omega) (by omega) (by omega) (by omega), fun w hw => z0 (224 + w) _ (by omega) (by omega) (by omega) (by omega), fun w hw => z0 (232 + w) _ (by omega) (by omega) (by omega) (by omega), fun w hw => ?_, fun w hw => z0 (246 + w) _ (by omega) (by omega) (by omega) (by omega), fun w hw => z0 (250 + w) _ (by omega) (by omega) (by omega) (by omega), fun _ w hw => z0 (314 + w) _ (by omega) (by omega) (by omega) (by omega), ns0⟩, ⟨⟨0, by omega, rfl⟩, ⟨0, by omega, rfl⟩, fun _ _ => rfl⟩, z0 322 _ rfl (by omega) (by omega) (by omega), z0 323 _ rfl (by omega) (by omega) (by omega), fun i hi => absurd hi (Nat.not_lt_zero i)⟩
  · rw [hz (3 + p) _ (by omega) (by omega)]
    unfold fV
    rw [if_neg (by omega), if_neg (by omega), if_pos (by omega)]
    exact (if_pos hp).symm
  · rw [hz (240 + w) _ (by omega) (by omega)]
    unfold fV
    rw [if_neg (by omega), if_neg (by omega), if_neg (by omega), if_pos (by omega)]
    exact (if_pos hw).symm
theorem rel_first : ∃ MO1, FX10_firsts Mo00 0 = some MO1 ∧ Rel Hw0 MO1 := by
  refine ⟨_, M_firsts (MO := Mo00) (β := 0) (by omega), 0, fun _ => 0, fun w hw => by omega, np0, ?_, ?_, ⟨rfl, rfl⟩, ⟨0, by omega, rfl, rfl, fun i hi => by omega⟩, ⟨0, 0, by omega, by omega, rfl, rfl, rfl, fun u hu => by omega, fun i hi => ⟨ns0, fun _ _ => rfl⟩⟩, ⟨np0, ns0, ns0⟩, fun k hk => Or.inl ⟨rfl, rfl⟩⟩
  · have h := seg_first (all := Mo_all Mo00) (β := 0) (ln := fun _ => 0)
    exact ⟨h.1, h.2.1, h.2.2.1, h.2.2.2.1, rfl, by omega⟩
  · exact (seg_first (all := Mo_all Mo00) (β := 0) (ln := fun _ => 0)).2.2.2.2
