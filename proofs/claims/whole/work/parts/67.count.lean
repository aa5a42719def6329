/-! ===== counts ===== -/
def cpB (PL : PlT) (W : Nat) (ln : Nat → Nat) (SC : ScT) (what w : Nat) : Bool := if what = 1 then enB SC w else if what = 5 then heB PL SC w else if what = 6 then !enB SC w && !bt (hdS PL W ln SC) w else if what = 7 then bt (hdS PL W ln SC) w else if what = 8 then soB PL W ln SC w else slB PL SC w
section COUNT
variable {μ : Prop} {PL : PlT} {W : Nat} {ln : Nat → Nat} {SC : ScT} {MO : MoT} {β : Nat}
theorem fr_eq (hW : W ≤ 8) : frS PL W ln SC = mk (fun w => !enB SC w && !bt (hdS PL W ln SC) w) W := by
  apply b_ext
  intro i hi
  rw [b_mk _ W (by omega) i hi]
  by_cases hiW : i < W
  · rw [decide_eq_true hiW, Bool.true_and, b_hd hW hi, decide_eq_true hiW, Bool.true_and]
    cases e1 : enB SC i
    · cases e2 : heB PL SC i
      · rw [fr_yes hW hiW e1 e2]
        rfl
      · cases bt (frS PL W ln SC) i <;> rfl
    · cases e3 : bt (frS PL W ln SC) i
      · rfl
      · rw [(fr_only hW hi e3).2] at e1
        exact absurd e1 (by decide)
  · rw [decide_eq_false hiW]
    cases e3 : bt (frS PL W ln SC) i
    · rfl
    · exact absurd (fr_only hW hi e3).1 hiW
theorem hd_eq (hW : W ≤ 8) : hdS PL W ln SC = mk (bt (hdS PL W ln SC)) W := by
  apply b_ext
  intro i hi
  rw [b_mk _ W (by omega) i hi]
  by_cases hiW : i < W
  · rw [decide_eq_true hiW, Bool.true_and]
  · rw [decide_eq_false hiW, b_hd hW hi, decide_eq_false hiW]
    rfl
theorem c_tally {VW : VwT} (hW : W ≤ 8) (hV : ViewOK PL W ln SC VW) {what : Nat} (hw : what = 1 ∨ (5 ≤ what ∧ what ≤ 9)) : FX7_tally VW (nI what) = some (nI (pc (cpB PL W ln SC what) W)) := by
  unfold FX7_tally
  rw [hV.2.1, hV.2.2.1, hV.2.2.2.1, hV.2.2.2.2.1, hV.2.2.2.2.2.1, hV.2.2.2.2.2.2.1, c_count hW, c_count hW, c_count hW, c_count hW, fr_eq hW, c_count hW, hd_eq hW, c_count hW]
  have h6 : what = 1 ∨ what = 5 ∨ what = 6 ∨ what = 7 ∨ what = 8 ∨ what = 9 := by omega
  rcases h6 with rfl | rfl | rfl | rfl | rfl | rfl
  · rw [if_pos (by decide)]
    rfl
  · rw [if_neg (by decide), if_pos (by decide)]
    rfl
  · rw [if_neg (by decide), if_neg (by decide), if_pos (by decide)]
    rw [← hd_eq hW]
    rfl
  · rw [if_neg (by decide), if_neg (by decide), if_neg (by decide), if_pos (by decide)]
    rfl
  · rw [if_neg (by decide), if_neg (by decide), if_neg (by decide), if_neg (by decide), if_pos (by decide)]
    rfl
  · rw [if_neg (by decide), if_neg (by decide), if_neg (by decide), if_neg (by decide), if_neg (by decide), if_pos (by decide)]
    rfl
theorem pc_t {P : Nat → Bool} {i : Nat} (h : P i = true) : nI (pc P i) + 1 = nI (pc P (i + 1)) := by
  show _ = nI (pc P i + (if P i = true then 1 else 0))
  rw [if_pos h, nI_1]
theorem pc_f {P : Nat → Bool} {i : Nat} (h : P i = false) : pc P i = pc P (i + 1) := by
  show _ = pc P i + (if P i = true then 1 else 0)
  rw [if_neg (by rw [h]; decide)]
  rfl
theorem s_endedN (h : Sim μ PL W ln SC MO β) : FX10_ended MO = some (nI (pc (cpB PL W ln SC 1) W)) := by
  have h8 := h.W8
  have q : itr (FX10_ended_4 MO) ((0 : Int32), (0 : Int32)) = some (nI (pc (cpB PL W ln SC 1) W)) := by
    refine itr_chain (fun i => (nI (pc (cpB PL W ln SC 1) i), nI i)) W (fun i hi => ?_) ?_
    · unfold FX10_ended_4
      rw [s_workers h]
      simp only [Option.bind_some, nm]
      rw [if_neg (nI_ge hi (by omega)), nI_1, s_ended h hi]
      simp only [Option.bind_some]
      show (if bI (enB SC i) = 0 then _ else _) = _
      cases e : enB SC i
      · rw [if_pos bI_f, Int32.add_zero, ← pc_f (P := cpB PL W ln SC 1) (i := i) e]
      · rw [if_neg bI_t, pc_t (P := cpB PL W ln SC 1) (i := i) e]
    · unfold FX10_ended_4
      rw [s_workers h]
      simp only [Option.bind_some]
      rw [if_pos (nI_le (Nat.le_refl _) (by omega))]
  unfold FX10_ended
  rw [q]
  rfl
theorem s_counted (h : Sim μ PL W ln SC MO β) {what : Nat} (hw : 5 ≤ what ∧ what ≤ 9) : FX10_counted MO (nI what) = some (nI (pc (cpB PL W ln SC what) W)) := by
  have h8 := h.W8
  have q : itr (FX10_counted_10 MO (nI what) (hdS PL W ln SC)) ((0 : Int32), (0 : Int32)) = some (nI (pc (cpB PL W ln SC what) W)) := by
    refine itr_chain (fun i => (nI (pc (cpB PL W ln SC what) i), nI i)) W (fun i hi => ?_) ?_
    · unfold FX10_counted_10
      rw [s_workers h]
      simp only [Option.bind_some, nm]
      rw [if_neg (nI_ge hi (by omega)), nI_1, s_ended h hi, s_held h hi, m_has _ (show i < 32 by omega), s_soft h hi, s_slow h hi, Int32.add_zero]
      simp only [Option.bind_some]
      show (if bI (enB SC i) = 0 then _ else _) = _
      have h6 : what = 5 ∨ what = 6 ∨ what = 7 ∨ what = 8 ∨ what = 9 := by omega
      cases e : enB SC i
      · rw [if_pos bI_f]
        rcases h6 with rfl | rfl | rfl | rfl | rfl
        · rw [if_pos (show nI 5 = (5 : Int32) from rfl)]
          cases e2 : heB PL SC i
          · rw [if_pos bI_f, ← pc_f (P := cpB PL W ln SC 5) (i := i) e2]
          · rw [if_neg bI_t, pc_t (P := cpB PL W ln SC 5) (i := i) e2]
        · rw [if_neg (show ¬ nI 6 = (5 : Int32) by decide), if_pos (show nI 6 = (6 : Int32) from rfl)]
          cases e2 : bt (hdS PL W ln SC) i
          · rw [if_pos bI_f, pc_t (P := cpB PL W ln SC 6) (i := i) (by show (!enB SC i && !bt (hdS PL W ln SC) i) = true; rw [e, e2]; rfl)]
          · rw [if_neg bI_t, ← pc_f (P := cpB PL W ln SC 6) (i := i) (by show (!enB SC i && !bt (hdS PL W ln SC) i) = false; rw [e, e2]; rfl)]
        · rw [if_neg (show ¬ nI 7 = (5 : Int32) by decide), if_neg (show ¬ nI 7 = (6 : Int32) by decide), if_pos (show nI 7 = (7 : Int32) from rfl)]
          cases e2 : bt (hdS PL W ln SC) i
          · rw [if_pos bI_f, ← pc_f (P := cpB PL W ln SC 7) (i := i) e2]
          · rw [if_neg bI_t, pc_t (P := cpB PL W ln SC 7) (i := i) e2]
        · rw [if_neg (show ¬ nI 8 = (5 : Int32) by decide), if_neg (show ¬ nI 8 = (6 : Int32) by decide), if_neg (show ¬ nI 8 = (7 : Int32) by decide), if_pos (show nI 8 = (8 : Int32) from rfl)]
          cases e2 : soB PL W ln SC i
          · rw [if_pos bI_f, ← pc_f (P := cpB PL W ln SC 8) (i := i) e2]
          · rw [if_neg bI_t, pc_t (P := cpB PL W ln SC 8) (i := i) e2]
        · rw [if_neg (show ¬ nI 9 = (5 : Int32) by decide), if_neg (show ¬ nI 9 = (6 : Int32) by decide), if_neg (show ¬ nI 9 = (7 : Int32) by decide), if_neg (show ¬ nI 9 = (8 : Int32) by decide)]
          cases e2 : slB PL SC i
          · rw [if_pos bI_f, ← pc_f (P := cpB PL W ln SC 9) (i := i) e2]
          · rw [if_neg bI_t, pc_t (P := cpB PL W ln SC 9) (i := i) e2]
      · have hh : heB PL SC i = false := by unfold heB; rw [e]; rfl
        have hd : bt (hdS PL W ln SC) i = false := by rw [b_hd h8 (by omega), hh]; simp
        rw [if_neg bI_t, ← pc_f (P := cpB PL W ln SC what) (i := i) (by
          rcases h6 with rfl | rfl | rfl | rfl | rfl
          · exact hh
          · show (!enB SC i && _) = false
            rw [e]
            rfl
          · exact hd
          · show soB PL W ln SC i = false
            unfold soB
            rw [hh]
            rfl
          · show slB PL SC i = false
            unfold slB
            rw [e]
            rfl)]
    · unfold FX10_counted_10
      rw [s_workers h]
      simp only [Option.bind_some]
      rw [if_pos (nI_le (Nat.le_refl _) (by omega))]
  unfold FX10_counted
  rw [s_hard h, Option.bind_some, q]
  rfl
end COUNT
theorem b_count : B_count Rel := by
  rintro ⟨WD, PL, SC, SK, TP, HI, HS, HK, RD, PD, VW, TR, ST, VT, SF, IM⟩ MO v1 h
  have h' := h
  obtain ⟨W, ln, h1, h2, h3, ⟨k0, k1, k2, -⟩, -, ⟨n, -, t1, t2, -⟩, ⟨nx, mn, -, -, -, u1, u2, -⟩, ⟨x1, x2, x3⟩, -⟩ := h'
  have hP : PlanOK PL W ln := h3.1
  have h8 := hP.2.1
  have k1' : Mo_all MO 322 = Sk_kept SK := z_b k1
  have k2' : Mo_all MO 323 = Sk_total SK := z_b k2
  have w1 : Mo_all MO 1 = Sc_window SC := z_b h3.2.2.2.1.1
  have w2 : Mo_all MO 2 = Sc_grace SC := z_b h3.2.2.2.1.2.1
  have w3 : Mo_all MO 207 = Sc_tick SC := z_b h3.2.2.2.1.2.2.1
  have t1' : Tp_length TP = nI n := t1
  have u1' : Hi_many HI = nI mn := u1
  obtain ⟨VW', l1, l2⟩ := c_look VW hP h1 h3.2.1
  have hl : ∀ VW'', Rel (WD, PL, SC, SK, TP, HI, HS, HK, RD, PD, VW'', TR, ST, VT, SF, IM) MO := fun VW'' => h.scr RD VW'' TR VT x1 x2 x3 KeepM.rf (fun _ _ => rfl)
  show ∃ q g, FX9_count HI WD PL SC SK TP VW v1 = some q ∧ FX10_count MO v1 = some g ∧ q.1 = g ∧ _
  unfold FX9_count FX10_count FX9_lookNow
  rw [hP.1, s_workers h3, s_endedN h3, l1, t1', t2, u1', u2, show (207 : Int32) = nI 207 from rfl, show (322 : Int32) = nI 322 from rfl, show (323 : Int32) = nI 323 from rfl, ix_nI (show 207 < 9519 by decide) (by decide), ix_nI (show 322 < 9519 by decide) (by decide), ix_nI (show 323 < 9519 by decide) (by decide), nI_clamp (show 207 < 2 ^ 31 by decide), nI_clamp (show 322 < 2 ^ 31 by decide), nI_clamp (show 323 < 2 ^ 31 by decide), w3, k1', k2']
  simp only [Option.bind_some]
  by_cases c0 : v1 = 0
  · rw [if_pos c0, if_pos c0]
    exact ⟨_, _, rfl, rfl, rfl, hl _⟩
  rw [if_neg c0, if_neg c0]
  by_cases c1 : v1 = 1
  · subst c1
    rw [if_pos rfl]
    rw [if_neg (by decide), if_neg (by decide), if_neg (by decide), if_neg (by decide), if_neg (by decide), if_neg (by decide), if_neg (by decide), show FX7_tally VW' 1 = _ from c_tally h8 l2 (what := 1) (Or.inl rfl)]
    exact ⟨_, _, rfl, rfl, rfl, hl _⟩
  rw [if_neg c1]
  by_cases c2 : v1 = 2
  · rw [if_pos c2, if_pos c2]
    exact ⟨_, _, rfl, rfl, rfl, hl _⟩
  rw [if_neg c2, if_neg c2]
  by_cases c3 : v1 = 3
  · rw [if_pos c3, if_pos c3, show (1 : Int32) = nI 1 from rfl, ix_nI (show 1 < 9519 by decide) (by decide), nI_clamp (show 1 < 2 ^ 31 by decide), w1]
    exact ⟨_, _, rfl, rfl, rfl, hl _⟩
  rw [if_neg c3, if_neg c3]
  by_cases c4 : v1 = 4
  · rw [if_pos c4, if_pos c4, show (2 : Int32) = nI 2 from rfl, ix_nI (show 2 < 9519 by decide) (by decide), nI_clamp (show 2 < 2 ^ 31 by decide), w2]
    exact ⟨_, _, rfl, rfl, rfl, hl _⟩
  rw [if_neg c4, if_neg c4]
  by_cases c10 : v1 = 10
  · rw [if_pos c10, if_pos c10]
    exact ⟨_, _, rfl, rfl, rfl, hl _⟩
  rw [if_neg c10, if_neg c10]
  by_cases c11 : v1 = 11
  · rw [if_pos c11, if_pos c11]
    exact ⟨_, _, rfl, rfl, rfl, hl _⟩
  rw [if_neg c11, if_neg c11]
  by_cases c12 : v1 = 12
  · rw [if_pos c12, if_pos c12]
    exact ⟨_, _, rfl, rfl, rfl, hl _⟩
  rw [if_neg c12, if_neg c12]
  by_cases c13 : v1 = 13
  · rw [if_pos c13, if_pos c13]
    exact ⟨_, _, rfl, rfl, rfl, hl _⟩
  rw [if_neg c13, if_neg c13, isIn_eq]
  simp only [Option.bind_some]
  by_cases cw : ¬ v1 < 5 ∧ ¬ 9 < v1
  · have hn : ¬ v1 < 0 := fun z => cw.1 (by
      rw [Int32.lt_iff_toInt_lt] at z ⊢
      have e0 : (0 : Int32).toInt = 0 := rfl
      have e5 : (5 : Int32).toInt = 5 := rfl
      omega)
    obtain ⟨j, hj, rfl⟩ := nI_of hn
    have j1 : 5 ≤ j := Nat.le_of_not_lt (fun z => cw.1 (nI_lt (b := 5) z (by decide)))
    have j2 : j ≤ 9 := Nat.le_of_not_lt (fun z => cw.2 (nI_lt (a := 9) z hj))
    rw [decide_eq_true cw, if_neg bI_t, s_counted h3 ⟨j1, j2⟩, c_tally h8 l2 (Or.inr ⟨j1, j2⟩)]
    exact ⟨_, _, rfl, rfl, rfl, hl _⟩
  · rw [decide_eq_false cw, if_pos bI_f]
    have et : FX7_tally VW' v1 = some (-1) := by
      unfold FX7_tally
      have k5 : ¬ v1 = 5 := fun z => cw (by rw [z]; decide)
      have k6 : ¬ v1 = 6 := fun z => cw (by rw [z]; decide)
      have k7 : ¬ v1 = 7 := fun z => cw (by rw [z]; decide)
      have k8 : ¬ v1 = 8 := fun z => cw (by rw [z]; decide)
      have k9 : ¬ v1 = 9 := fun z => cw (by rw [z]; decide)
      rw [if_neg c1, if_neg k5, if_neg k6, if_neg k7, if_neg k8, if_neg k9]
    rw [et]
    exact ⟨_, _, rfl, rfl, rfl, hl _⟩
