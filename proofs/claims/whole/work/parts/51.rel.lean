/-! ===== what a good plan and a good scene are; a scene beside a stretch of the reference's row ===== -/
/-- a step of worker w (of W): its kind and its number -/
def StepOK (W w : Nat) (κ n : Int32) : Prop :=
  (κ = nI 0 ∧ ∃ x, x ≤ 50 ∧ n = nI x) ∨ (κ = nI 7 ∧ ∃ x, x ≤ 99 ∧ n = nI x) ∨ ((κ = nI 1 ∨ κ = nI 2) ∧ ∃ x, x < 6 ∧ n = nI x) ∨ ((κ = nI 3 ∨ κ = nI 4) ∧ ∃ x, x < 4 ∧ n = nI x) ∨ ((κ = nI 5 ∨ κ = nI 6) ∧ ∃ x, x < W ∧ x ≠ w ∧ n = nI x) ∨ ((κ = nI 8 ∨ κ = nI 9) ∧ n = -1)
def PlanOK (PL : PlT) (W : Nat) (ln : Nat → Nat) : Prop :=
  Pl_workers PL = nI W ∧ W ≤ 8 ∧ (∀ w, w < W → Pl_lengths PL w = nI (ln w) ∧ 1 ≤ ln w ∧ ln w ≤ 12) ∧ ∀ w, w < W → ∀ k, k < ln w → StepOK W w (Pl_kinds PL (12 * w + k)) (Pl_numbers PL (12 * w + k))
def SceneOK (W : Nat) (ln : Nat → Nat) (SC : ScT) : Prop :=
  (∀ w, w < W → Sc_place SC w = -1 ∨ ∃ k, k < ln w ∧ Sc_place SC w = nI k) ∧ (∀ x, x < 6 → Sc_holders SC x = -1 ∨ ∃ w, w < W ∧ Sc_holders SC x = nI w) ∧ (∃ x, x ≤ 50 ∧ Sc_window SC = nI x) ∧ ∃ x, x ≤ 50 ∧ Sc_grace SC = nI x
/-- the plan's half -/
def SegP (PL : PlT) (W : Nat) (ln : Nat → Nat) (all : Nat → Int32) (β : Nat) : Prop :=
  all β = nI W ∧ (∀ p, p < 4 → all (β + 3 + p) = Pl_rooms PL p) ∧ (∀ w, w < 8 → all (β + 7 + w) = Pl_lengths PL w) ∧ ∀ w, w < W → ∀ k, k < ln w → all (β + 15 + 12 * w + k) = Pl_kinds PL (12 * w + k) ∧ all (β + 111 + 12 * w + k) = Pl_numbers PL (12 * w + k)
/-- nothing lies beside a row -/
def Nz (n : Nat) (f : Nat → Int32) : Prop := ∀ k, n ≤ k → f k = 0
theorem Nz.up {n i : Nat} {f : Nat → Int32} (h : Nz n f) (hi : i < n) (v : Int32) : Nz n (upd f i v) := fun k hk => (if_neg (by omega)).trans (h k hk)
def NormS (SC : ScT) : Prop := Nz 8 (Sc_place SC) ∧ Nz 8 (Sc_ticked SC) ∧ Nz 8 (Sc_beat SC) ∧ Nz 8 (Sc_steps SC) ∧ Nz 8 (Sc_marks SC) ∧ Nz 6 (Sc_holders SC) ∧ Nz 4 (Sc_lies SC) ∧ Nz 64 (Sc_mail SC)
/-- the scene's half -/
def SegS (μ : Prop) (SC : ScT) (all : Nat → Int32) (β : Nat) : Prop :=
  all (β + 1) = Sc_window SC ∧ all (β + 2) = Sc_grace SC ∧ all (β + 207) = Sc_tick SC ∧ (∀ w, w < 8 → all (β + 208 + w) = Sc_place SC w) ∧ (∀ w, w < 8 → all (β + 216 + w) = Sc_ticked SC w) ∧ (∀ w, w < 8 → all (β + 224 + w) = Sc_beat SC w) ∧ (∀ w, w < 8 → all (β + 232 + w) = Sc_steps SC w) ∧ (∀ x, x < 6 → all (β + 240 + x) = Sc_holders SC x) ∧ (∀ p, p < 4 → all (β + 246 + p) = Sc_lies SC p) ∧ (∀ i, i < 64 → all (β + 250 + i) = Sc_mail SC i) ∧ (μ → ∀ w, w < 8 → all (β + 314 + w) = Sc_marks SC w) ∧ NormS SC
/-- all that a reading of the reference needs -/
def Sim (μ : Prop) (PL : PlT) (W : Nat) (ln : Nat → Nat) (SC : ScT) (MO : MoT) (β : Nat) : Prop := PlanOK PL W ln ∧ SceneOK W ln SC ∧ SegP PL W ln (Mo_all MO) β ∧ SegS μ SC (Mo_all MO) β ∧ Mo_b MO = nI β ∧ β + 474 ≤ 9519
section SIM
variable {μ : Prop} {PL : PlT} {W : Nat} {ln : Nat → Nat} {SC : ScT} {MO : MoT} {β : Nat}
theorem Sim.W8 (h : Sim μ PL W ln SC MO β) : W ≤ 8 := h.1.2.1
theorem s_place (h : Sim μ PL W ln SC MO β) {w : Nat} (hw : w < W) : FX10_place MO (nI w) = some (Sc_place SC w) := by
  obtain ⟨hP, hS, hp, hs, hb, hβ⟩ := h
  have h8 := hP.2.1
  rw [M_place hb (by omega), hs.2.2.2.1 w (by omega)]
theorem s_workers (h : Sim μ PL W ln SC MO β) : FX10_workers MO = some (nI W) := by
  obtain ⟨hP, hS, hp, hs, hb, hβ⟩ := h
  rw [M_workers hb (by omega), hp.1]
theorem s_ended (h : Sim μ PL W ln SC MO β) {w : Nat} (hw : w < W) : FX10_isEnded MO (nI w) = some (decide (Sc_place SC w = -1)) := by
  unfold FX10_isEnded
  rw [s_place h hw]
  show (if Sc_place SC w = -1 then some true else some false) = _
  by_cases e : Sc_place SC w = -1
  · rw [if_pos e, decide_eq_true e]
  · rw [if_neg e, decide_eq_false e]
theorem s_sortNow (h : Sim μ PL W ln SC MO β) {w k : Nat} (hw : w < W) (hk : k < ln w) (e : Sc_place SC w = nI k) : FX10_sortNow MO (nI w) = some (Pl_kinds PL (12 * w + k)) := by
  unfold FX10_sortNow
  rw [s_place h hw, e]
  obtain ⟨hP, hS, hp, hs, hb, hβ⟩ := h
  have h8 := hP.2.1
  have h12 := (hP.2.2.1 w hw).2.2
  show (FX10_sort MO (nI w) (nI k)).bind _ = _
  rw [M_sort hb (by omega), (hp.2.2.2 w hw k hk).1]
  rfl
theorem s_numberNow (h : Sim μ PL W ln SC MO β) {w k : Nat} (hw : w < W) (hk : k < ln w) (e : Sc_place SC w = nI k) : FX10_numberNow MO (nI w) = some (Pl_numbers PL (12 * w + k)) := by
  unfold FX10_numberNow
  rw [s_place h hw, e]
  obtain ⟨hP, hS, hp, hs, hb, hβ⟩ := h
  have h8 := hP.2.1
  have h12 := (hP.2.2.1 w hw).2.2
  show (FX10_number MO (nI w) (nI k)).bind _ = _
  rw [M_number hb (by omega), (hp.2.2.2 w hw k hk).2]
  rfl
theorem c_kind (h : PlanOK PL W ln) {w k : Nat} (hw : w < W) (hk : k < ln w) : FX1_kindAt PL (nI w) (nI k) = some (Pl_kinds PL (12 * w + k)) := kindAt_eq h.1 h.2.1 hw (h.2.2.1 w hw).1 (h.2.2.1 w hw).2.2 hk
theorem c_number (h : PlanOK PL W ln) {w k : Nat} (hw : w < W) (hk : k < ln w) : FX1_numberAt PL (nI w) (nI k) = some (Pl_numbers PL (12 * w + k)) := numberAt_eq h.1 h.2.1 hw (h.2.2.1 w hw).1 (h.2.2.1 w hw).2.2 hk
/-- whether a step could be done now: by the class's rows -/
def canB (PL : PlT) (SC : ScT) (w k : Nat) : Bool :=
  if Pl_kinds PL (12 * w + k) = nI 1 then decide (Sc_holders SC (Pl_numbers PL (12 * w + k)).toNatClampNeg = -1)
  else if Pl_kinds PL (12 * w + k) = nI 3 then !decide (Pl_rooms PL (Pl_numbers PL (12 * w + k)).toNatClampNeg ≤ Sc_lies SC (Pl_numbers PL (12 * w + k)).toNatClampNeg)
  else if Pl_kinds PL (12 * w + k) = nI 4 then !decide (Sc_lies SC (Pl_numbers PL (12 * w + k)).toNatClampNeg ≤ 0)
  else if Pl_kinds PL (12 * w + k) = nI 6 then !decide (Sc_mail SC (8 * w + (Pl_numbers PL (12 * w + k)).toNatClampNeg) ≤ 0)
  else true
theorem if_dec {c : Prop} [Decidable c] : (if c then some true else some false) = some (decide c) := by
  by_cases h : c
  · rw [if_pos h, decide_eq_true h]
  · rw [if_neg h, decide_eq_false h]
theorem if_ndec {c : Prop} [Decidable c] : (if c then some false else some true) = some (!decide c) := by
  by_cases h : c
  · rw [if_pos h, decide_eq_true h]; rfl
  · rw [if_neg h, decide_eq_false h]; rfl
theorem num_lock (h : PlanOK PL W ln) {w k : Nat} (hw : w < W) (hk : k < ln w) (e : Pl_kinds PL (12 * w + k) = nI 1 ∨ Pl_kinds PL (12 * w + k) = nI 2) : ∃ x, x < 6 ∧ Pl_numbers PL (12 * w + k) = nI x := by
  rcases h.2.2.2 w hw k hk with ⟨a, -⟩ | ⟨a, -⟩ | ⟨-, a⟩ | ⟨a, -⟩ | ⟨a, -⟩ | ⟨a, -⟩
  · rcases e with e | e <;> (rw [e] at a; exact absurd (nI_inj (by decide) (by decide) a) (by decide))
  · rcases e with e | e <;> (rw [e] at a; exact absurd (nI_inj (by decide) (by decide) a) (by decide))
  · exact a
  · rcases e with e | e <;> rcases a with a | a <;> (rw [e] at a; exact absurd (nI_inj (by decide) (by decide) a) (by decide))
  · rcases e with e | e <;> rcases a with a | a <;> (rw [e] at a; exact absurd (nI_inj (by decide) (by decide) a) (by decide))
  · rcases e with e | e <;> rcases a with a | a <;> (rw [e] at a; exact absurd (nI_inj (by decide) (by decide) a) (by decide))
theorem num_pipe (h : PlanOK PL W ln) {w k : Nat} (hw : w < W) (hk : k < ln w) (e : Pl_kinds PL (12 * w + k) = nI 3 ∨ Pl_kinds PL (12 * w + k) = nI 4) : ∃ x, x < 4 ∧ Pl_numbers PL (12 * w + k) = nI x := by
  rcases h.2.2.2 w hw k hk with ⟨a, -⟩ | ⟨a, -⟩ | ⟨a, -⟩ | ⟨-, a⟩ | ⟨a, -⟩ | ⟨a, -⟩
  · rcases e with e | e <;> (rw [e] at a; exact absurd (nI_inj (by decide) (by decide) a) (by decide))
  · rcases e with e | e <;> (rw [e] at a; exact absurd (nI_inj (by decide) (by decide) a) (by decide))
  · rcases e with e | e <;> rcases a with a | a <;> (rw [e] at a; exact absurd (nI_inj (by decide) (by decide) a) (by decide))
  · exact a
  · rcases e with e | e <;> rcases a with a | a <;> (rw [e] at a; exact absurd (nI_inj (by decide) (by decide) a) (by decide))
  · rcases e with e | e <;> rcases a with a | a <;> (rw [e] at a; exact absurd (nI_inj (by decide) (by decide) a) (by decide))
theorem num_mate (h : PlanOK PL W ln) {w k : Nat} (hw : w < W) (hk : k < ln w) (e : Pl_kinds PL (12 * w + k) = nI 5 ∨ Pl_kinds PL (12 * w + k) = nI 6) : ∃ x, x < W ∧ x ≠ w ∧ Pl_numbers PL (12 * w + k) = nI x := by
  rcases h.2.2.2 w hw k hk with ⟨a, -⟩ | ⟨a, -⟩ | ⟨a, -⟩ | ⟨a, -⟩ | ⟨-, a⟩ | ⟨a, -⟩
  · rcases e with e | e <;> (rw [e] at a; exact absurd (nI_inj (by decide) (by decide) a) (by decide))
  · rcases e with e | e <;> (rw [e] at a; exact absurd (nI_inj (by decide) (by decide) a) (by decide))
  · rcases e with e | e <;> rcases a with a | a <;> (rw [e] at a; exact absurd (nI_inj (by decide) (by decide) a) (by decide))
  · rcases e with e | e <;> rcases a with a | a <;> (rw [e] at a; exact absurd (nI_inj (by decide) (by decide) a) (by decide))
  · exact a
  · rcases e with e | e <;> rcases a with a | a <;> (rw [e] at a; exact absurd (nI_inj (by decide) (by decide) a) (by decide))
theorem c_canDo (h : PlanOK PL W ln) {w k : Nat} (hw : w < W) (hk : k < ln w) (e : Sc_place SC w = nI k) : FX3_canDo SC PL (nI w) = some (canB PL SC w k) := by
  have h8 := h.2.1
  unfold FX3_canDo canB
  rw [ix_nI (by omega) (by decide), nI_clamp (by omega), e, c_number h hw hk]
  show ix (nI w) 8 ((FX1_kindAt PL (nI w) (nI k)).bind _) = _
  rw [ix_nI (by omega) (by decide), c_kind h hw hk]
  simp only [Option.bind_some]
  by_cases k1 : Pl_kinds PL (12 * w + k) = nI 1
  · obtain ⟨x, hx, ex⟩ := num_lock h hw hk (Or.inl k1)
    rw [if_pos k1, if_pos (show Pl_kinds PL (12 * w + k) = 1 from k1), ex, at_eq hx (by decide), nI_clamp (by omega)]
    exact if_dec
  · rw [if_neg k1, if_neg (show ¬ Pl_kinds PL (12 * w + k) = 1 from k1)]
    by_cases k3 : Pl_kinds PL (12 * w + k) = nI 3
    · obtain ⟨x, hx, ex⟩ := num_pipe h hw hk (Or.inl k3)
      rw [if_pos k3, if_pos (show Pl_kinds PL (12 * w + k) = 3 from k3), ex, at_eq hx (by decide), nI_clamp (by omega)]
      simp only [Option.bind_some]
      rw [at_eq hx (by decide)]
      exact if_ndec
    · rw [if_neg k3, if_neg (show ¬ Pl_kinds PL (12 * w + k) = 3 from k3)]
      by_cases k4 : Pl_kinds PL (12 * w + k) = nI 4
      · obtain ⟨x, hx, ex⟩ := num_pipe h hw hk (Or.inr k4)
        rw [if_pos k4, if_pos (show Pl_kinds PL (12 * w + k) = 4 from k4), ex, at_eq hx (by decide), nI_clamp (by omega)]
        exact if_ndec
      · rw [if_neg k4, if_neg (show ¬ Pl_kinds PL (12 * w + k) = 4 from k4)]
        by_cases k6 : Pl_kinds PL (12 * w + k) = nI 6
        · obtain ⟨x, hx, hne, ex⟩ := num_mate h hw hk (Or.inr k6)
          rw [if_pos k6, if_pos (show Pl_kinds PL (12 * w + k) = 6 from k6), ex, show nI w * 8 + nI x = nI (8 * w + x) from by rw [show (8 : Int32) = nI 8 from rfl, pk_mul, nI_add]; congr 1; omega, at_eq (by omega) (by decide), nI_clamp (by omega)]
          exact if_ndec
        · rw [if_neg k6, if_neg (show ¬ Pl_kinds PL (12 * w + k) = 6 from k6)]
end SIM
