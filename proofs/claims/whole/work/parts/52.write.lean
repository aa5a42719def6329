/-! ===== one write on both sides ===== -/
theorem sg_window {μ : Prop} {SC : ScT} {all : Nat → Int32} {β : Nat} (h : SegS μ SC all β) (v : Int32) : SegS μ (sSc_window SC v) (upd all (β + 1) v) β := by
  obtain ⟨h0, h1, h2, h3, h4, h5, h6, h7, h8, h9, h10, n0, n1, n2, n3, n4, n5, n6, n7⟩ := h
  refine ⟨?_, ?_, ?_, ?_, ?_, ?_, ?_, ?_, ?_, ?_, ?_, ?_⟩
  · exact if_pos rfl
  · exact (if_neg (by omega)).trans h1
  · exact (if_neg (by omega)).trans h2
  · intro w hw
    exact (if_neg (by omega)).trans (h3 w hw)
  · intro w hw
    exact (if_neg (by omega)).trans (h4 w hw)
  · intro w hw
    exact (if_neg (by omega)).trans (h5 w hw)
  · intro w hw
    exact (if_neg (by omega)).trans (h6 w hw)
  · intro w hw
    exact (if_neg (by omega)).trans (h7 w hw)
  · intro w hw
    exact (if_neg (by omega)).trans (h8 w hw)
  · intro w hw
    exact (if_neg (by omega)).trans (h9 w hw)
  · intro hm w hw
    exact (if_neg (by omega)).trans (h10 hm w hw)
  · exact ⟨n0, n1, n2, n3, n4, n5, n6, n7⟩
theorem sg_grace {μ : Prop} {SC : ScT} {all : Nat → Int32} {β : Nat} (h : SegS μ SC all β) (v : Int32) : SegS μ (sSc_grace SC v) (upd all (β + 2) v) β := by
  obtain ⟨h0, h1, h2, h3, h4, h5, h6, h7, h8, h9, h10, n0, n1, n2, n3, n4, n5, n6, n7⟩ := h
  refine ⟨?_, ?_, ?_, ?_, ?_, ?_, ?_, ?_, ?_, ?_, ?_, ?_⟩
  · exact (if_neg (by omega)).trans h0
  · exact if_pos rfl
  · exact (if_neg (by omega)).trans h2
  · intro w hw
    exact (if_neg (by omega)).trans (h3 w hw)
  · intro w hw
    exact (if_neg (by omega)).trans (h4 w hw)
  · intro w hw
    exact (if_neg (by omega)).trans (h5 w hw)
  · intro w hw
    exact (if_neg (by omega)).trans (h6 w hw)
  · intro w hw
    exact (if_neg (by omega)).trans (h7 w hw)
  · intro w hw
    exact (if_neg (by omega)).trans (h8 w hw)
  · intro w hw
    exact (if_neg (by omega)).trans (h9 w hw)
  · intro hm w hw
    exact (if_neg (by omega)).trans (h10 hm w hw)
  · exact ⟨n0, n1, n2, n3, n4, n5, n6, n7⟩
theorem sg_tick {μ : Prop} {SC : ScT} {all : Nat → Int32} {β : Nat} (h : SegS μ SC all β) (v : Int32) : SegS μ (sSc_tick SC v) (upd all (β + 207) v) β := by
  obtain ⟨h0, h1, h2, h3, h4, h5, h6, h7, h8, h9, h10, n0, n1, n2, n3, n4, n5, n6, n7⟩ := h
  refine ⟨?_, ?_, ?_, ?_, ?_, ?_, ?_, ?_, ?_, ?_, ?_, ?_⟩
  · exact (if_neg (by omega)).trans h0
  · exact (if_neg (by omega)).trans h1
  · exact if_pos rfl
  · intro w hw
    exact (if_neg (by omega)).trans (h3 w hw)
  · intro w hw
    exact (if_neg (by omega)).trans (h4 w hw)
  · intro w hw
    exact (if_neg (by omega)).trans (h5 w hw)
  · intro w hw
    exact (if_neg (by omega)).trans (h6 w hw)
  · intro w hw
    exact (if_neg (by omega)).trans (h7 w hw)
  · intro w hw
    exact (if_neg (by omega)).trans (h8 w hw)
  · intro w hw
    exact (if_neg (by omega)).trans (h9 w hw)
  · intro hm w hw
    exact (if_neg (by omega)).trans (h10 hm w hw)
  · exact ⟨n0, n1, n2, n3, n4, n5, n6, n7⟩
theorem sg_place {μ : Prop} {SC : ScT} {all : Nat → Int32} {β i : Nat} (h : SegS μ SC all β) (hi : i < 8) (v : Int32) : SegS μ (sSc_place SC (upd (Sc_place SC) i v)) (upd all (β + 208 + i) v) β := by
  obtain ⟨h0, h1, h2, h3, h4, h5, h6, h7, h8, h9, h10, n0, n1, n2, n3, n4, n5, n6, n7⟩ := h
  refine ⟨?_, ?_, ?_, ?_, ?_, ?_, ?_, ?_, ?_, ?_, ?_, ?_⟩
  · exact (if_neg (by omega)).trans h0
  · exact (if_neg (by omega)).trans h1
  · exact (if_neg (by omega)).trans h2
  · intro w hw
    by_cases e : w = i
    · subst e
      exact (if_pos rfl).trans (if_pos rfl).symm
    · exact (if_neg (by omega)).trans ((h3 w hw).trans (if_neg e).symm)
  · intro w hw
    exact (if_neg (by omega)).trans (h4 w hw)
  · intro w hw
    exact (if_neg (by omega)).trans (h5 w hw)
  · intro w hw
    exact (if_neg (by omega)).trans (h6 w hw)
  · intro w hw
    exact (if_neg (by omega)).trans (h7 w hw)
  · intro w hw
    exact (if_neg (by omega)).trans (h8 w hw)
  · intro w hw
    exact (if_neg (by omega)).trans (h9 w hw)
  · intro hm w hw
    exact (if_neg (by omega)).trans (h10 hm w hw)
  · exact ⟨n0.up hi v, n1, n2, n3, n4, n5, n6, n7⟩
theorem sg_ticked {μ : Prop} {SC : ScT} {all : Nat → Int32} {β i : Nat} (h : SegS μ SC all β) (hi : i < 8) (v : Int32) : SegS μ (sSc_ticked SC (upd (Sc_ticked SC) i v)) (upd all (β + 216 + i) v) β := by
  obtain ⟨h0, h1, h2, h3, h4, h5, h6, h7, h8, h9, h10, n0, n1, n2, n3, n4, n5, n6, n7⟩ := h
  refine ⟨?_, ?_, ?_, ?_, ?_, ?_, ?_, ?_, ?_, ?_, ?_, ?_⟩
  · exact (if_neg (by omega)).trans h0
  · exact (if_neg (by omega)).trans h1
  · exact (if_neg (by omega)).trans h2
  · intro w hw
    exact (if_neg (by omega)).trans (h3 w hw)
  · intro w hw
    by_cases e : w = i
    · subst e
      exact (if_pos rfl).trans (if_pos rfl).symm
    · exact (if_neg (by omega)).trans ((h4 w hw).trans (if_neg e).symm)
  · intro w hw
    exact (if_neg (by omega)).trans (h5 w hw)
  · intro w hw
    exact (if_neg (by omega)).trans (h6 w hw)
  · intro w hw
    exact (if_neg (by omega)).trans (h7 w hw)
  · intro w hw
    exact (if_neg (by omega)).trans (h8 w hw)
  · intro w hw
    exact (if_neg (by omega)).trans (h9 w hw)
  · intro hm w hw
    exact (if_neg (by omega)).trans (h10 hm w hw)
  · exact ⟨n0, n1.up hi v, n2, n3, n4, n5, n6, n7⟩
theorem sg_beat {μ : Prop} {SC : ScT} {all : Nat → Int32} {β i : Nat} (h : SegS μ SC all β) (hi : i < 8) (v : Int32) : SegS μ (sSc_beat SC (upd (Sc_beat SC) i v)) (upd all (β + 224 + i) v) β := by
  obtain ⟨h0, h1, h2, h3, h4, h5, h6, h7, h8, h9, h10, n0, n1, n2, n3, n4, n5, n6, n7⟩ := h
  refine ⟨?_, ?_, ?_, ?_, ?_, ?_, ?_, ?_, ?_, ?_, ?_, ?_⟩
  · exact (if_neg (by omega)).trans h0
  · exact (if_neg (by omega)).trans h1
  · exact (if_neg (by omega)).trans h2
  · intro w hw
    exact (if_neg (by omega)).trans (h3 w hw)
  · intro w hw
    exact (if_neg (by omega)).trans (h4 w hw)
  · intro w hw
    by_cases e : w = i
    · subst e
      exact (if_pos rfl).trans (if_pos rfl).symm
    · exact (if_neg (by omega)).trans ((h5 w hw).trans (if_neg e).symm)
  · intro w hw
    exact (if_neg (by omega)).trans (h6 w hw)
  · intro w hw
    exact (if_neg (by omega)).trans (h7 w hw)
  · intro w hw
    exact (if_neg (by omega)).trans (h8 w hw)
  · intro w hw
    exact (if_neg (by omega)).trans (h9 w hw)
  · intro hm w hw
    exact (if_neg (by omega)).trans (h10 hm w hw)
  · exact ⟨n0, n1, n2.up hi v, n3, n4, n5, n6, n7⟩
theorem sg_steps {μ : Prop} {SC : ScT} {all : Nat → Int32} {β i : Nat} (h : SegS μ SC all β) (hi : i < 8) (v : Int32) : SegS μ (sSc_steps SC (upd (Sc_steps SC) i v)) (upd all (β + 232 + i) v) β := by
  obtain ⟨h0, h1, h2, h3, h4, h5, h6, h7, h8, h9, h10, n0, n1, n2, n3, n4, n5, n6, n7⟩ := h
  refine ⟨?_, ?_, ?_, ?_, ?_, ?_, ?_, ?_, ?_, ?_, ?_, ?_⟩
  · exact (if_neg (by omega)).trans h0
  · exact (if_neg (by omega)).trans h1
  · exact (if_neg (by omega)).trans h2
  · intro w hw
    exact (if_neg (by omega)).trans (h3 w hw)
  · intro w hw
    exact (if_neg (by omega)).trans (h4 w hw)
  · intro w hw
    exact (if_neg (by omega)).trans (h5 w hw)
  · intro w hw
    by_cases e : w = i
    · subst e
      exact (if_pos rfl).trans (if_pos rfl).symm
    · exact (if_neg (by omega)).trans ((h6 w hw).trans (if_neg e).symm)
  · intro w hw
    exact (if_neg (by omega)).trans (h7 w hw)
  · intro w hw
    exact (if_neg (by omega)).trans (h8 w hw)
  · intro w hw
    exact (if_neg (by omega)).trans (h9 w hw)
  · intro hm w hw
    exact (if_neg (by omega)).trans (h10 hm w hw)
  · exact ⟨n0, n1, n2, n3.up hi v, n4, n5, n6, n7⟩
theorem sg_holders {μ : Prop} {SC : ScT} {all : Nat → Int32} {β i : Nat} (h : SegS μ SC all β) (hi : i < 6) (v : Int32) : SegS μ (sSc_holders SC (upd (Sc_holders SC) i v)) (upd all (β + 240 + i) v) β := by
  obtain ⟨h0, h1, h2, h3, h4, h5, h6, h7, h8, h9, h10, n0, n1, n2, n3, n4, n5, n6, n7⟩ := h
  refine ⟨?_, ?_, ?_, ?_, ?_, ?_, ?_, ?_, ?_, ?_, ?_, ?_⟩
  · exact (if_neg (by omega)).trans h0
  · exact (if_neg (by omega)).trans h1
  · exact (if_neg (by omega)).trans h2
  · intro w hw
    exact (if_neg (by omega)).trans (h3 w hw)
  · intro w hw
    exact (if_neg (by omega)).trans (h4 w hw)
  · intro w hw
    exact (if_neg (by omega)).trans (h5 w hw)
  · intro w hw
    exact (if_neg (by omega)).trans (h6 w hw)
  · intro w hw
    by_cases e : w = i
    · subst e
      exact (if_pos rfl).trans (if_pos rfl).symm
    · exact (if_neg (by omega)).trans ((h7 w hw).trans (if_neg e).symm)
  · intro w hw
    exact (if_neg (by omega)).trans (h8 w hw)
  · intro w hw
    exact (if_neg (by omega)).trans (h9 w hw)
  · intro hm w hw
    exact (if_neg (by omega)).trans (h10 hm w hw)
  · exact ⟨n0, n1, n2, n3, n4, n5.up hi v, n6, n7⟩
theorem sg_lies {μ : Prop} {SC : ScT} {all : Nat → Int32} {β i : Nat} (h : SegS μ SC all β) (hi : i < 4) (v : Int32) : SegS μ (sSc_lies SC (upd (Sc_lies SC) i v)) (upd all (β + 246 + i) v) β := by
  obtain ⟨h0, h1, h2, h3, h4, h5, h6, h7, h8, h9, h10, n0, n1, n2, n3, n4, n5, n6, n7⟩ := h
  refine ⟨?_, ?_, ?_, ?_, ?_, ?_, ?_, ?_, ?_, ?_, ?_, ?_⟩
  · exact (if_neg (by omega)).trans h0
  · exact (if_neg (by omega)).trans h1
  · exact (if_neg (by omega)).trans h2
  · intro w hw
    exact (if_neg (by omega)).trans (h3 w hw)
  · intro w hw
    exact (if_neg (by omega)).trans (h4 w hw)
  · intro w hw
    exact (if_neg (by omega)).trans (h5 w hw)
  · intro w hw
    exact (if_neg (by omega)).trans (h6 w hw)
  · intro w hw
    exact (if_neg (by omega)).trans (h7 w hw)
  · intro w hw
    by_cases e : w = i
    · subst e
      exact (if_pos rfl).trans (if_pos rfl).symm
    · exact (if_neg (by omega)).trans ((h8 w hw).trans (if_neg e).symm)
  · intro w hw
    exact (if_neg (by omega)).trans (h9 w hw)
  · intro hm w hw
    exact (if_neg (by omega)).trans (h10 hm w hw)
  · exact ⟨n0, n1, n2, n3, n4, n5, n6.up hi v, n7⟩
theorem sg_mail {μ : Prop} {SC : ScT} {all : Nat → Int32} {β i : Nat} (h : SegS μ SC all β) (hi : i < 64) (v : Int32) : SegS μ (sSc_mail SC (upd (Sc_mail SC) i v)) (upd all (β + 250 + i) v) β := by
  obtain ⟨h0, h1, h2, h3, h4, h5, h6, h7, h8, h9, h10, n0, n1, n2, n3, n4, n5, n6, n7⟩ := h
  refine ⟨?_, ?_, ?_, ?_, ?_, ?_, ?_, ?_, ?_, ?_, ?_, ?_⟩
  · exact (if_neg (by omega)).trans h0
  · exact (if_neg (by omega)).trans h1
  · exact (if_neg (by omega)).trans h2
  · intro w hw
    exact (if_neg (by omega)).trans (h3 w hw)
  · intro w hw
    exact (if_neg (by omega)).trans (h4 w hw)
  · intro w hw
    exact (if_neg (by omega)).trans (h5 w hw)
  · intro w hw
    exact (if_neg (by omega)).trans (h6 w hw)
  · intro w hw
    exact (if_neg (by omega)).trans (h7 w hw)
  · intro w hw
    exact (if_neg (by omega)).trans (h8 w hw)
  · intro w hw
    by_cases e : w = i
    · subst e
      exact (if_pos rfl).trans (if_pos rfl).symm
    · exact (if_neg (by omega)).trans ((h9 w hw).trans (if_neg e).symm)
  · intro hm w hw
    exact (if_neg (by omega)).trans (h10 hm w hw)
  · exact ⟨n0, n1, n2, n3, n4, n5, n6, n7.up hi v⟩
theorem sg_marks {μ : Prop} {SC : ScT} {all : Nat → Int32} {β i : Nat} (h : SegS μ SC all β) (hi : i < 8) (v : Int32) : SegS μ (sSc_marks SC (upd (Sc_marks SC) i v)) (upd all (β + 314 + i) v) β := by
  obtain ⟨h0, h1, h2, h3, h4, h5, h6, h7, h8, h9, h10, n0, n1, n2, n3, n4, n5, n6, n7⟩ := h
  refine ⟨?_, ?_, ?_, ?_, ?_, ?_, ?_, ?_, ?_, ?_, ?_, ?_⟩
  · exact (if_neg (by omega)).trans h0
  · exact (if_neg (by omega)).trans h1
  · exact (if_neg (by omega)).trans h2
  · intro w hw
    exact (if_neg (by omega)).trans (h3 w hw)
  · intro w hw
    exact (if_neg (by omega)).trans (h4 w hw)
  · intro w hw
    exact (if_neg (by omega)).trans (h5 w hw)
  · intro w hw
    exact (if_neg (by omega)).trans (h6 w hw)
  · intro w hw
    exact (if_neg (by omega)).trans (h7 w hw)
  · intro w hw
    exact (if_neg (by omega)).trans (h8 w hw)
  · intro w hw
    exact (if_neg (by omega)).trans (h9 w hw)
  · intro hm w hw
    by_cases e : w = i
    · subst e
      exact (if_pos rfl).trans (if_pos rfl).symm
    · exact (if_neg (by omega)).trans ((h10 hm w hw).trans (if_neg e).symm)
  · exact ⟨n0, n1, n2, n3, n4.up hi v, n5, n6, n7⟩
/-- nothing but the scene's stretch has changed -/
def Chg (β : Nat) (all all' : Nat → Int32) : Prop := ∀ j, (j < β + 1 ∨ (β + 3 ≤ j ∧ j < β + 207) ∨ β + 322 ≤ j) → all' j = all j
theorem Chg.rf {β : Nat} {all : Nat → Int32} : Chg β all all := fun _ _ => rfl
theorem Chg.tr {β : Nat} {a b c : Nat → Int32} (h1 : Chg β a b) (h2 : Chg β b c) : Chg β a c := fun j hj => (h2 j hj).trans (h1 j hj)
theorem Chg.up {β i : Nat} {all : Nat → Int32} {v : Int32} (h : (β + 1 ≤ i ∧ i < β + 3) ∨ (β + 207 ≤ i ∧ i < β + 322)) : Chg β all (upd all i v) := fun j hj => if_neg (by omega)
theorem SegP.chg {PL : PlT} {W : Nat} {ln : Nat → Nat} {all all' : Nat → Int32} {β : Nat} (h : SegP PL W ln all β) (hW : W ≤ 8) (hl : ∀ w, w < W → ln w ≤ 12) (hc : Chg β all all') : SegP PL W ln all' β := by
  obtain ⟨h0, h1, h2, h3⟩ := h
  refine ⟨(hc _ (by omega)).trans h0, fun p hp => (hc _ (by omega)).trans (h1 p hp), fun w hw => (hc _ (by omega)).trans (h2 w hw), fun w hw k hk => ?_⟩
  have := hl w hw
  exact ⟨(hc _ (by omega)).trans (h3 w hw k hk).1, (hc _ (by omega)).trans (h3 w hw k hk).2⟩
theorem Sim.to {μ : Prop} {PL : PlT} {W : Nat} {ln : Nat → Nat} {SC SC' : ScT} {MO : MoT} {β : Nat} {all' : Nat → Int32} (h : Sim μ PL W ln SC MO β) (hS : SegS μ SC' all' β) (hO : SceneOK W ln SC') (hc : Chg β (Mo_all MO) all') : Sim μ PL W ln SC' (sMo_all MO all') β :=
  ⟨h.1, hO, h.2.2.1.chg h.1.2.1 (fun w hw => (h.1.2.2.1 w hw).2.2) hc, hS, h.2.2.2.2.1, h.2.2.2.2.2⟩
theorem M_ix {α : Type} {β a b : Nat} (h : β + a + b < 9519) (k : Option α) : ix (nI β + nI a + nI b) 9519 k = k := by
  rw [nI_a2]
  exact ix_nI h (by decide) k
theorem M_cl {β a b : Nat} (h : β + a + b < 9519) : (nI β + nI a + nI b).toNatClampNeg = β + a + b := by
  rw [nI_a2]
  exact nI_clamp (by omega)
section SIM2
variable {μ : Prop} {PL : PlT} {W : Nat} {ln : Nat → Nat} {SC : ScT} {MO : MoT} {β : Nat}
theorem M_beats (hb : Mo_b MO = nI β) (hβ : β + 474 ≤ 9519) {w : Nat} (hw : w < 8) : FX10_beats MO (nI w) = some (sMo_all MO (upd (upd (Mo_all MO) (β + 224 + w) (Mo_all MO (β + 207))) (β + 314 + w) 0)) := by
  unfold FX10_beats
  simp only [nm]
  rw [hb, show nI β + 207 = nI (β + 207) from nI_add β 207, ix_nI (by omega) (by decide), show nI β + 224 + nI w = nI β + nI 224 + nI w from rfl, M_ix (by omega), M_cl (by omega), nI_clamp (show β + 207 < 2 ^ 31 by omega), show nI β + 314 + nI w = nI β + nI 314 + nI w from rfl, M_ix (by omega), M_cl (by omega)]
theorem C_beat {w : Nat} (hw : w < 8) : FX3_beatNow SC (nI w) = some (sSc_marks (sSc_beat SC (upd (Sc_beat SC) w (Sc_tick SC))) (upd (Sc_marks SC) w 0)) := by
  unfold FX3_beatNow
  rw [ix_nI hw (by decide)]
  simp only [nm, nI_clamp (show w < 2 ^ 31 by omega)]
  rw [ix_nI hw (by decide)]
theorem beat_sim (h : SegS μ SC (Mo_all MO) β) (hb : Mo_b MO = nI β) (hβ : β + 474 ≤ 9519) {w : Nat} (hw : w < 8) : ∃ SC' all', FX3_beatNow SC (nI w) = some SC' ∧ FX10_beats MO (nI w) = some (sMo_all MO all') ∧ SegS μ SC' all' β ∧ Chg β (Mo_all MO) all' ∧ Sc_place SC' = Sc_place SC ∧ Sc_holders SC' = Sc_holders SC := by
  refine ⟨_, _, C_beat hw, M_beats hb hβ hw, ?_, (Chg.up (by omega)).tr (Chg.up (by omega)), rfl, rfl⟩
  have h1 := sg_beat h hw (Sc_tick SC)
  rw [← h.2.2.1] at h1
  have h2 := sg_marks h1 hw 0
  rw [h.2.2.1] at h2
  rw [h.2.2.1]
  exact h2
/-- the reference's step done, its new place given -/
theorem M_goesj (hb : Mo_b MO = nI β) (hβ : β + 474 ≤ 9519) {w : Nat} (hw : w < 8) (v : Int32) : FX10_goesOn_j71 MO (nI w) v = FX10_beats (sMo_all MO (upd (upd (upd (Mo_all MO) (β + 208 + w) v) (β + 216 + w) 0) (β + 232 + w) (Mo_all MO (β + 232 + w) + 1))) (nI w) := by
  unfold FX10_goesOn_j71
  simp only [nm]
  rw [hb, show nI β + 208 + nI w = nI β + nI 208 + nI w from rfl, M_ix (by omega), M_cl (by omega), show nI β + 216 + nI w = nI β + nI 216 + nI w from rfl, M_ix (by omega), M_cl (by omega), show nI β + 232 + nI w = nI β + nI 232 + nI w from rfl, M_ix (by omega), M_ix (by omega), M_cl (by omega)]
  have e : upd (upd (Mo_all MO) (β + 208 + w) v) (β + 216 + w) 0 (β + 232 + w) = Mo_all MO (β + 232 + w) := (if_neg (by omega)).trans (if_neg (by omega))
  show (FX10_beats (sMo_all MO (upd (upd (upd (Mo_all MO) (β + 208 + w) v) (β + 216 + w) 0) (β + 232 + w) (upd (upd (Mo_all MO) (β + 208 + w) v) (β + 216 + w) 0 (β + 232 + w) + 1))) (nI w)).bind _ = _
  rw [e]
  generalize FX10_beats _ _ = z
  cases z <;> rfl
/-- where a step of that kind leads to -/
def nextP (κ : Int32) (k l : Nat) : Int32 := if κ = nI 8 then nI 0 else if κ = nI 9 then -1 else if k + 1 < l then nI (k + 1) else -1
def finS (SC : ScT) (w : Nat) (v : Int32) : ScT := sSc_place (sSc_marks (sSc_beat (sSc_ticked (sSc_steps SC (upd (Sc_steps SC) w (Sc_steps SC w + 1))) (upd (Sc_ticked SC) w 0)) (upd (Sc_beat SC) w (Sc_tick SC))) (upd (Sc_marks SC) w 0)) (upd (Sc_place SC) w v)
theorem C_finish (hP : PlanOK PL W ln) {w k : Nat} {κ : Int32} (hw : w < W) (hk : k < ln w) (e : Sc_place SC w = nI k) : FX3_finish SC PL (nI w) κ = some (finS SC w (nextP κ k (ln w))) := by
  have h8 := hP.2.1
  obtain ⟨hl, h1, h12⟩ := hP.2.2.1 w hw
  have hw8 : w < 8 := by omega
  unfold FX3_finish
  rw [ix_nI hw8 (by decide), ix_nI hw8 (by decide)]
  simp only [nm, nI_clamp (show w < 2 ^ 31 by omega)]
  rw [ix_nI hw8 (by decide), C_beat hw8]
  simp only [Option.bind_some]
  unfold nextP finS
  by_cases k8 : κ = nI 8
  · rw [if_pos k8, if_pos (show κ = 8 from k8), ix_nI hw8 (by decide)]
    try rfl
  · rw [if_neg k8, if_neg (show ¬ κ = 8 from k8)]
    by_cases k9 : κ = nI 9
    · rw [if_pos k9, if_pos (show κ = 9 from k9), ix_nI hw8 (by decide)]
    · rw [if_neg k9, if_neg (show ¬ κ = 9 from k9), ix_nI hw8 (by decide), ix_nI hw8 (by decide)]
      show (if Sc_place SC w + 1 < Pl_lengths PL w then _ else _) = _
      rw [e, hl, nI_1]
      by_cases hlt : k + 1 < ln w
      · rw [if_pos (nI_lt hlt (by omega)), if_pos hlt, ix_nI hw8 (by decide), ix_nI hw8 (by decide)]
      · rw [if_neg (nI_nlt (by omega) (by omega)), if_neg hlt, ix_nI hw8 (by decide)]
theorem M_goesOn (h : Sim μ PL W ln SC MO β) {w k : Nat} (hw : w < W) (hk : k < ln w) (e : Sc_place SC w = nI k) : FX10_goesOn MO (nI w) = FX10_goesOn_j71 MO (nI w) (nextP (Pl_kinds PL (12 * w + k)) k (ln w)) := by
  unfold FX10_goesOn nextP
  rw [s_sortNow h hw hk e]
  simp only [Option.bind_some]
  by_cases k8 : Pl_kinds PL (12 * w + k) = nI 8
  · rw [if_pos k8, if_pos (show Pl_kinds PL (12 * w + k) = 8 from k8)]
    try rfl
  · rw [if_neg k8, if_neg (show ¬ Pl_kinds PL (12 * w + k) = 8 from k8)]
    by_cases k9 : Pl_kinds PL (12 * w + k) = nI 9
    · rw [if_pos k9, if_pos (show Pl_kinds PL (12 * w + k) = 9 from k9)]
    · rw [if_neg k9, if_neg (show ¬ Pl_kinds PL (12 * w + k) = 9 from k9), s_place h hw, e]
      obtain ⟨hP, hS, hp, hs, hb, hβ⟩ := h
      have h8 := hP.2.1
      obtain ⟨hl, h1, h12⟩ := hP.2.2.1 w hw
      simp only [Option.bind_some, nm]
      rw [hb, show nI β + 7 + nI w = nI β + nI 7 + nI w from rfl, M_ix (by omega), M_cl (by omega), hp.2.2.1 w (by omega), hl, nI_1]
      by_cases hlt : k + 1 < ln w
      · rw [if_neg (fun z => absurd (nI_inj (by omega) (by omega) z) (by omega)), if_pos hlt]
      · rw [if_pos (by rw [show k + 1 = ln w by omega]), if_neg hlt]
theorem fin_sim (h : Sim μ PL W ln SC MO β) {w k : Nat} (hw : w < W) (hk : k < ln w) (e : Sc_place SC w = nI k) : ∃ all', FX10_goesOn MO (nI w) = some (sMo_all MO all') ∧ SegS μ (finS SC w (nextP (Pl_kinds PL (12 * w + k)) k (ln w))) all' β ∧ Chg β (Mo_all MO) all' ∧ SceneOK W ln (finS SC w (nextP (Pl_kinds PL (12 * w + k)) k (ln w))) := by
  have h8 := h.W8
  have hw8 : w < 8 := by omega
  have hs := h.2.2.2.1
  have hb := h.2.2.2.2.1
  have hβ := h.2.2.2.2.2
  have hln := (h.1.2.2.1 w hw).2.1
  generalize hv : nextP (Pl_kinds PL (12 * w + k)) k (ln w) = v
  have g1 := sg_steps (sg_ticked (sg_place hs hw8 v) hw8 0) hw8 (Sc_steps SC w + 1)
  rw [← hs.2.2.2.2.2.2.1 w hw8] at g1
  have et : upd (upd (upd (Mo_all MO) (β + 208 + w) v) (β + 216 + w) 0) (β + 232 + w) (Mo_all MO (β + 232 + w) + 1) (β + 207) = Sc_tick SC := (if_neg (by omega)).trans ((if_neg (by omega)).trans ((if_neg (by omega)).trans hs.2.2.1))
  refine ⟨upd (upd (upd (upd (upd (Mo_all MO) (β + 208 + w) v) (β + 216 + w) 0) (β + 232 + w) (Mo_all MO (β + 232 + w) + 1)) (β + 224 + w) (Sc_tick SC)) (β + 314 + w) 0, ?_, ?_, ?_, ?_⟩
  · rw [M_goesOn h hw hk e, hv, M_goesj hb hβ hw8, M_beats (MO := sMo_all MO (upd (upd (upd (Mo_all MO) (β + 208 + w) v) (β + 216 + w) 0) (β + 232 + w) (Mo_all MO (β + 232 + w) + 1))) hb hβ hw8]
    show some (sMo_all MO (upd (upd _ (β + 224 + w) (upd (upd (upd (Mo_all MO) (β + 208 + w) v) (β + 216 + w) 0) (β + 232 + w) (Mo_all MO (β + 232 + w) + 1) (β + 207))) (β + 314 + w) 0)) = _
    rw [et]
  · have g2 := sg_beat g1 hw8 (Sc_tick SC)
    have g3 := sg_marks g2 hw8 0
    have es := hs.2.2.2.2.2.2.1 w hw8
    unfold finS
    rw [← es]
    exact g3
  · exact (((Chg.up (by omega)).tr (Chg.up (by omega))).tr (Chg.up (by omega))).tr ((Chg.up (by omega)).tr (Chg.up (by omega)))
  · refine ⟨fun x hx => ?_, h.2.1.2⟩
    show upd (Sc_place SC) w v x = -1 ∨ ∃ k, k < ln x ∧ upd (Sc_place SC) w v x = nI k
    by_cases ex : x = w
    · subst ex
      rw [show upd (Sc_place SC) x v x = v from if_pos rfl, ← hv]
      unfold nextP
      split
      · exact Or.inr ⟨0, by omega, rfl⟩
      · split
        · exact Or.inl rfl
        · split
          · exact Or.inr ⟨k + 1, by assumption, rfl⟩
          · exact Or.inl rfl
    · rw [show upd (Sc_place SC) w v x = Sc_place SC x from if_neg ex]
      exact h.2.1.1 x hx
end SIM2
