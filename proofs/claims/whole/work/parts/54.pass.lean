/-! ===== a tick's first half on both sides ===== -/
theorem itr_sim {σ ε σ' ε' : Type} {f : σ → Option (σ ⊕ ε)} {g : σ' → Option (σ' ⊕ ε')} {Q : ε → ε' → Prop} (R : Nat → σ → σ' → Prop) (n : Nat) (st : ∀ i s s', i ≤ n → R i s s' → (i < n ∧ ∃ t t', f s = some (.inl t) ∧ g s' = some (.inl t') ∧ R (i + 1) t t') ∨ (∃ e e', f s = some (.inr e) ∧ g s' = some (.inr e') ∧ Q e e')) {s : σ} {s' : σ'} (h0 : R 0 s s') : ∃ e e', itr f s = some e ∧ itr g s' = some e' ∧ Q e e' := by
  have key : ∀ d i s s', i + d = n → R i s s' → ∃ e e', itr f s = some e ∧ itr g s' = some e' ∧ Q e e' := by
    intro d
    induction d with
    | zero =>
      intro i s s' hi hr
      rcases st i s s' (by omega) hr with ⟨hl, -⟩ | ⟨e, e', h1, h2, h3⟩
      · omega
      · exact ⟨e, e', itr_inr h1, itr_inr h2, h3⟩
    | succ d ih =>
      intro i s s' hi hr
      rcases st i s s' (by omega) hr with ⟨-, t, t', h1, h2, h3⟩ | ⟨e, e', h1, h2, h3⟩
      · obtain ⟨e, e', g1, g2, g3⟩ := ih (i + 1) t t' (by omega) h3
        exact ⟨e, e', (itr_inl h1).trans g1, (itr_inl h2).trans g2, g3⟩
      · exact ⟨e, e', itr_inr h1, itr_inr h2, h3⟩
  exact key n 0 s s' (by omega) h0
theorem itr_inv {σ ε : Type} {f : σ → Option (σ ⊕ ε)} {Q : ε → Prop} (R : Nat → σ → Prop) (n : Nat) (st : ∀ i s, i ≤ n → R i s → (i < n ∧ ∃ t, f s = some (.inl t) ∧ R (i + 1) t) ∨ (∃ e, f s = some (.inr e) ∧ Q e)) {s : σ} (h0 : R 0 s) : ∃ e, itr f s = some e ∧ Q e := by
  have key : ∀ d i s, i + d = n → R i s → ∃ e, itr f s = some e ∧ Q e := by
    intro d
    induction d with
    | zero =>
      intro i s hi hr
      rcases st i s (by omega) hr with ⟨hl, -⟩ | ⟨e, h1, h3⟩
      · omega
      · exact ⟨e, itr_inr h1, h3⟩
    | succ d ih =>
      intro i s hi hr
      rcases st i s (by omega) hr with ⟨-, t, h1, h3⟩ | ⟨e, h1, h3⟩
      · obtain ⟨e, g1, g3⟩ := ih (i + 1) t (by omega) h3
        exact ⟨e, (itr_inl h1).trans g1, g3⟩
      · exact ⟨e, itr_inr h1, h3⟩
  exact key n 0 s (by omega) h0
section PASS
variable {μ : Prop} {PL : PlT} {W : Nat} {ln : Nat → Nat} {SC : ScT} {MO : MoT} {β : Nat}
theorem pr1 {α : Type} (i : Nat) (x : α) : (nI i + 1, x) = (nI (i + 1), x) := by rw [nI_1]
theorem bI_t : ¬ (bI true = 0) := by decide
theorem bI_f : bI false = 0 := by decide
theorem does_wait (h : Sim μ PL W ln SC MO β) {w k : Nat} (hw : w < W) (hk : k < ln w) (e : Sc_place SC w = nI k) (hcan : canB PL SC w k = false) : FX10_does MO (nI w) = some MO := by
  have hcb := s_canBe h hw hk e
  rw [hcan] at hcb
  unfold FX10_does
  rw [s_numberNow h hw hk e, s_sortNow h hw hk e, hcb]
  simp only [Option.bind_some, nm]
  unfold canB at hcan
  have n07 : ¬ (Pl_kinds PL (12 * w + k) = 0 ∨ Pl_kinds PL (12 * w + k) = 7) := by
    rintro (z | z) <;> (rw [z, if_neg (by decide), if_neg (by decide), if_neg (by decide), if_neg (by decide)] at hcan; exact absurd hcan (by decide))
  rw [if_neg n07]
  by_cases k1 : Pl_kinds PL (12 * w + k) = 1
  · rw [if_pos k1, if_pos bI_f]
  · rw [if_neg k1]
    have n2 : ¬ Pl_kinds PL (12 * w + k) = 2 := by
      intro z
      rw [z, if_neg (by decide), if_neg (by decide), if_neg (by decide), if_neg (by decide)] at hcan
      exact absurd hcan (by decide)
    rw [if_neg n2]
    by_cases k3 : Pl_kinds PL (12 * w + k) = 3
    · rw [if_pos k3, if_pos bI_f]
    · rw [if_neg k3]
      by_cases k4 : Pl_kinds PL (12 * w + k) = 4
      · rw [if_pos k4, if_pos bI_f]
      · rw [if_neg k4]
        have n5 : ¬ Pl_kinds PL (12 * w + k) = 5 := by
          intro z
          rw [z, if_neg (by decide), if_neg (by decide), if_neg (by decide), if_neg (by decide)] at hcan
          exact absurd hcan (by decide)
        rw [if_neg n5]
        by_cases k6 : Pl_kinds PL (12 * w + k) = 6
        · rw [if_pos k6, if_pos bI_f]
        · exfalso
          rw [if_neg (show ¬ Pl_kinds PL (12 * w + k) = nI 1 from k1), if_neg (show ¬ Pl_kinds PL (12 * w + k) = nI 3 from k3), if_neg (show ¬ Pl_kinds PL (12 * w + k) = nI 4 from k4), if_neg (show ¬ Pl_kinds PL (12 * w + k) = nI 6 from k6)] at hcan
          exact absurd hcan (by decide)
theorem Sim.alt (h : Sim μ PL W ln SC MO β) {w : Nat} (hw : w < W) : Sc_place SC w = -1 ∨ ∃ k, k < ln w ∧ Sc_place SC w = nI k := h.2.1.1 w hw
theorem tick_sim (h : Sim μ PL W ln SC MO β) : ∃ SC' all', FX3_pass SC PL = some SC' ∧ itr FX10_ticksOnce_19 ((0 : Int32), sMo_all MO (upd (Mo_all MO) (β + 207) (Sc_tick SC + 1))) = some (sMo_all MO all') ∧ Sim μ PL W ln SC' (sMo_all MO all') β ∧ Chg β (Mo_all MO) all' := by
  have h8 := h.W8
  have hP := h.1
  have h0 : Sim μ PL W ln (sSc_tick SC (Sc_tick SC + 1)) (sMo_all MO (upd (Mo_all MO) (β + 207) (Sc_tick SC + 1))) β := h.to (sg_tick h.2.2.2.1 _) ⟨h.2.1.1, h.2.1.2⟩ (Chg.up (by omega))
  obtain ⟨e, e', q1, q2, SC', all', rfl, rfl, q5, q6⟩ := itr_sim (f := FX3_pass_12 PL) (g := FX10_ticksOnce_19) (Q := fun e e' => ∃ SC' all', e = SC' ∧ e' = sMo_all MO all' ∧ Sim μ PL W ln SC' (sMo_all MO all') β ∧ Chg β (Mo_all MO) all') (fun i s s' => ∃ SC' all', s = (nI i, SC') ∧ s' = (nI i, sMo_all MO all') ∧ Sim μ PL W ln SC' (sMo_all MO all') β ∧ Chg β (Mo_all MO) all') W (by
    rintro i s s' hi ⟨SC', all', rfl, rfl, hs, hc⟩
    unfold FX3_pass_12 FX10_ticksOnce_19
    rw [s_workers hs, hP.1]
    simp only [Option.bind_some]
    by_cases hiW : i < W
    · left
      refine ⟨hiW, ?_⟩
      rw [if_neg (nI_ge hiW (by omega)), if_neg (nI_ge hiW (by omega)), ix_nI (by omega) (by decide), s_ended hs hiW, nI_clamp (by omega)]
      simp only [Option.bind_some]
      rcases hs.alt hiW with e | ⟨k, hk, e⟩
      · rw [if_pos e, decide_eq_true e, if_neg bI_t]
        exact ⟨_, _, rfl, rfl, SC', all', pr1 i _, pr1 i _, hs, hc⟩
      · have ne : ¬ Sc_place SC' i = -1 := by
          have := (h.1.2.2.1 i hiW).2.2
          rw [e]
          exact nI_m1 k (by omega)
        rw [if_neg ne, decide_eq_false ne, if_pos bI_f, c_canDo hP hiW hk e]
        simp only [Option.bind_some]
        cases hc' : canB PL SC' i k
        · rw [if_pos bI_f, does_wait hs hiW hk e hc']
          exact ⟨_, _, rfl, rfl, SC', all', pr1 i _, pr1 i _, hs, hc⟩
        · rw [if_neg bI_t]
          obtain ⟨SC2, all2, a1, a2, a3, a4, a5⟩ := act_sim hs hiW hk e hc'
          rw [a1, a2]
          exact ⟨_, _, rfl, rfl, SC2, all2, pr1 i _, pr1 i _, hs.to a3 a5 a4, hc.tr a4⟩
    · right
      have : i = W := by omega
      subst this
      rw [if_pos (nI_le (Nat.le_refl _) (by omega)), if_pos (nI_le (Nat.le_refl _) (by omega))]
      exact ⟨_, _, rfl, rfl, SC', all', rfl, rfl, hs, hc⟩) (s := (nI 0, sSc_tick SC (Sc_tick SC + 1))) (s' := (nI 0, sMo_all MO (upd (Mo_all MO) (β + 207) (Sc_tick SC + 1)))) ⟨_, _, rfl, rfl, h0, Chg.up (by omega)⟩
  refine ⟨e, all', ?_, q2, q5, q6⟩
  unfold FX3_pass
  simp only [nm]
  rw [show itr (FX3_pass_12 PL) ((0 : Int32), sSc_tick SC (Sc_tick SC + 1)) = some e from q1]
  rfl
end PASS
