section ACT
variable {μ : Prop} {PL : PlT} {W : Nat} {ln : Nat → Nat} {SC : ScT} {MO : MoT} {β : Nat}
theorem M_msg {a c : Nat} (hb : Mo_b MO = nI β) : FX10_messageAt MO (nI a) (nI c) = some (nI (β + 250 + (8 * a + c))) := by
  unfold FX10_messageAt
  rw [hb, show (8 : Int32) = nI 8 from rfl, show (250 : Int32) = nI 250 from rfl, pk_mul, nI_add, nI_add, nI_add]
  congr 2
  omega
theorem s_canBe (h : Sim μ PL W ln SC MO β) {w k : Nat} (hw : w < W) (hk : k < ln w) (e : Sc_place SC w = nI k) : FX10_canBe MO (nI w) = some (canB PL SC w k) := by
  have hP := h.1
  have h8 := h.W8
  have hs := h.2.2.2.1
  have hp := h.2.2.1
  have hb := h.2.2.2.2.1
  have hβ := h.2.2.2.2.2
  unfold FX10_canBe canB
  rw [s_numberNow h hw hk e]
  simp only [Option.bind_some]
  rw [s_sortNow h hw hk e]
  simp only [Option.bind_some, nm]
  by_cases k1 : Pl_kinds PL (12 * w + k) = nI 1
  · obtain ⟨x, hx, ex⟩ := num_lock hP hw hk (Or.inl k1)
    rw [if_pos k1, if_pos (show Pl_kinds PL (12 * w + k) = 1 from k1), ex, hb, show nI β + 240 + nI x = nI β + nI 240 + nI x from rfl, M_ix (by omega), M_cl (by omega), hs.2.2.2.2.2.2.2.1 x hx, nI_clamp (by omega)]
    exact if_dec
  · rw [if_neg k1, if_neg (show ¬ Pl_kinds PL (12 * w + k) = 1 from k1)]
    by_cases k3 : Pl_kinds PL (12 * w + k) = nI 3
    · obtain ⟨x, hx, ex⟩ := num_pipe hP hw hk (Or.inl k3)
      rw [if_pos k3, if_pos (show Pl_kinds PL (12 * w + k) = 3 from k3), ex, hb, show nI β + 246 + nI x = nI β + nI 246 + nI x from rfl, show nI β + 3 + nI x = nI β + nI 3 + nI x from rfl, M_ix (by omega), M_ix (by omega), M_cl (by omega), M_cl (by omega), hs.2.2.2.2.2.2.2.2.1 x hx, hp.2.1 x hx, nI_clamp (by omega)]
      exact if_ndec
    · rw [if_neg k3, if_neg (show ¬ Pl_kinds PL (12 * w + k) = 3 from k3)]
      by_cases k4 : Pl_kinds PL (12 * w + k) = nI 4
      · obtain ⟨x, hx, ex⟩ := num_pipe hP hw hk (Or.inr k4)
        rw [if_pos k4, if_pos (show Pl_kinds PL (12 * w + k) = 4 from k4), ex, hb, show nI β + 246 + nI x = nI β + nI 246 + nI x from rfl, M_ix (by omega), M_cl (by omega), hs.2.2.2.2.2.2.2.2.1 x hx, nI_clamp (by omega)]
        exact if_ndec
      · rw [if_neg k4, if_neg (show ¬ Pl_kinds PL (12 * w + k) = 4 from k4)]
        by_cases k6 : Pl_kinds PL (12 * w + k) = nI 6
        · obtain ⟨x, hx, hne, ex⟩ := num_mate hP hw hk (Or.inr k6)
          rw [if_pos k6, if_pos (show Pl_kinds PL (12 * w + k) = 6 from k6), ex, M_msg hb]
          simp only [Option.bind_some]
          rw [ix_nI (by omega) (by decide), nI_clamp (show β + 250 + (8 * w + x) < 2 ^ 31 by omega), hs.2.2.2.2.2.2.2.2.2.1 (8 * w + x) (by omega), nI_clamp (show x < 2 ^ 31 by omega)]
          exact if_ndec
        · rw [if_neg k6, if_neg (show ¬ Pl_kinds PL (12 * w + k) = 6 from k6)]
/-- behind a small change on both sides the step is done on both sides -/
theorem step_fin (h : Sim μ PL W ln SC MO β) {w k : Nat} (hw : w < W) (hk : k < ln w) (e : Sc_place SC w = nI k) {SC1 : ScT} {all1 : Nat → Int32} (hS : SegS μ SC1 all1 β) (hc : Chg β (Mo_all MO) all1) (hO : SceneOK W ln SC1) (hp : Sc_place SC1 = Sc_place SC) :
    ∃ SC' all', FX3_finish SC1 PL (nI w) (Pl_kinds PL (12 * w + k)) = some SC' ∧ FX10_goesOn (sMo_all MO all1) (nI w) = some (sMo_all MO all') ∧ SegS μ SC' all' β ∧ Chg β (Mo_all MO) all' ∧ SceneOK W ln SC' := by
  have e1 : Sc_place SC1 w = nI k := by rw [hp]; exact e
  obtain ⟨all', g1, g2, g3, g4⟩ := fin_sim (h.to hS hO hc) hw hk e1
  exact ⟨_, all', C_finish h.1 hw hk e1, g1, g2, hc.tr g3, g4⟩
theorem upd_two {f : Nat → Int32} {i : Nat} {a b : Int32} : upd (upd f i a) i b = upd f i b := by
  funext j
  show (if j = i then b else (if j = i then a else f j)) = (if j = i then b else f j)
  by_cases e : j = i
  · rw [if_pos e, if_pos e]
  · rw [if_neg e, if_neg e, if_neg e]
theorem fin_beat {SC3 : ScT} {w : Nat} {v : Int32} : finS (sSc_marks (sSc_beat SC3 (upd (Sc_beat SC3) w (Sc_tick SC3))) (upd (Sc_marks SC3) w 0)) w v = finS SC3 w v := by
  show sSc_place (sSc_marks (sSc_beat (sSc_ticked (sSc_steps SC3 (upd (Sc_steps SC3) w (Sc_steps SC3 w + 1))) (upd (Sc_ticked SC3) w 0)) (upd (upd (Sc_beat SC3) w (Sc_tick SC3)) w (Sc_tick SC3))) (upd (upd (Sc_marks SC3) w 0) w 0)) (upd (Sc_place SC3) w v) = _
  rw [upd_two, upd_two]
  rfl
theorem j88_eq {MO : MoT} {β w : Nat} {n : Int32} (hb : Mo_b MO = nI β) (hβ : β + 474 ≤ 9519) (hw : w < 8) : FX10_does_j88 (nI w) n MO = if n ≤ Mo_all MO (β + 216 + w) then FX10_goesOn MO (nI w) else some MO := by
  unfold FX10_does_j88
  simp only [nm]
  rw [hb, show nI β + 216 + nI w = nI β + nI 216 + nI w from rfl, M_ix (by omega), M_cl (by omega)]
  by_cases h : n ≤ Mo_all MO (β + 216 + w)
  · rw [if_pos h, if_pos h]
    generalize FX10_goesOn _ _ = z
    cases z <;> rfl
  · rw [if_neg h, if_neg h]
theorem act_sim (h : Sim μ PL W ln SC MO β) {w k : Nat} (hw : w < W) (hk : k < ln w) (e : Sc_place SC w = nI k) (hcan : canB PL SC w k = true) :
    ∃ SC' all', FX3_act SC PL (nI w) = some SC' ∧ FX10_does MO (nI w) = some (sMo_all MO all') ∧ SegS μ SC' all' β ∧ Chg β (Mo_all MO) all' ∧ SceneOK W ln SC' := by
  have hP := h.1
  have h8 := h.W8
  have hw8 : w < 8 := by omega
  have hs := h.2.2.2.1
  have hO := h.2.1
  have hb := h.2.2.2.2.1
  have hβ := h.2.2.2.2.2
  have hcb := s_canBe h hw hk e
  rw [hcan] at hcb
  unfold FX3_act FX10_does
  rw [ix_nI hw8 (by decide), nI_clamp (by omega), e, c_number hP hw hk, s_numberNow h hw hk e, s_sortNow h hw hk e]
  simp only [Option.bind_some]
  rw [ix_nI hw8 (by decide), c_kind hP hw hk, hcb]
  simp only [Option.bind_some, nm]
  have hbt : ¬ (bI true = 0) := by decide
  have fin0 := step_fin h hw hk e hs Chg.rf hO rfl
  by_cases k07 : Pl_kinds PL (12 * w + k) = 0 ∨ Pl_kinds PL (12 * w + k) = 7
  · rw [if_pos k07, if_pos k07, hb, show nI β + 216 + nI w = nI β + nI 216 + nI w from rfl, M_ix (by omega), M_ix (by omega), M_cl (by omega), hs.2.2.2.2.1 w hw8]
    unfold FX3_spend
    rw [ix_nI hw8 (by decide), ix_nI hw8 (by decide)]
    simp only [nm]
    rw [ix_nI hw8 (by decide), nI_clamp (show w < 2 ^ 31 by omega)]
    have hS1 := sg_ticked hs hw8 (Sc_ticked SC w + 1)
    have hc1 : Chg β (Mo_all MO) (upd (Mo_all MO) (β + 216 + w) (Sc_ticked SC w + 1)) := Chg.up (by omega)
    have h1 := h.to hS1 hO hc1
    have e1 : Sc_place (sSc_ticked SC (upd (Sc_ticked SC) w (Sc_ticked SC w + 1))) w = nI k := e
    have et : Sc_ticked (sSc_ticked SC (upd (Sc_ticked SC) w (Sc_ticked SC w + 1))) w = Sc_ticked SC w + 1 := if_pos rfl
    rw [s_sortNow h1 hw hk e1, et]
    simp only [Option.bind_some]
    by_cases k0 : Pl_kinds PL (12 * w + k) = 0
    · rw [if_pos k0, if_pos k0, C_beat hw8]
      obtain ⟨SC4, all2, b1, b2, b3, b4, b5, b6⟩ := beat_sim hS1 (MO := sMo_all MO (upd (Mo_all MO) (β + 216 + w) (Sc_ticked SC w + 1))) hb hβ hw8
      have b1' := b1
      rw [C_beat hw8] at b1'
      have b7 := Option.some.inj b1'
      subst b7
      rw [b2]
      simp only [Option.bind_some]
      have h2 := h1.to b3 ⟨hO.1, hO.2⟩ b4
      rw [j88_eq (MO := sMo_all MO all2) hb hβ hw8, show Mo_all (sMo_all MO all2) (β + 216 + w) = Sc_ticked SC w + 1 from (b3.2.2.2.2.1 w hw8).trans et]
      by_cases hn : Sc_ticked SC w + 1 < Pl_numbers PL (12 * w + k)
      · rw [if_pos hn, if_neg (Int32.not_le.mpr hn)]
        exact ⟨_, all2, rfl, rfl, b3, hc1.tr b4, ⟨hO.1, hO.2⟩⟩
      · rw [if_neg hn, if_pos (Int32.not_lt.mp hn), C_finish hP hw hk e1]
        obtain ⟨all', g1, g2, g3, g4⟩ := fin_sim h2 hw hk e
        rw [fin_beat] at g2 g4
        exact ⟨_, all', rfl, g1, g2, (hc1.tr b4).tr g3, g4⟩
    · rw [if_neg k0, if_neg k0, j88_eq (MO := sMo_all MO (upd (Mo_all MO) (β + 216 + w) (Sc_ticked SC w + 1))) hb hβ hw8, show Mo_all (sMo_all MO (upd (Mo_all MO) (β + 216 + w) (Sc_ticked SC w + 1))) (β + 216 + w) = Sc_ticked SC w + 1 from if_pos rfl]
      by_cases hn : Sc_ticked SC w + 1 < Pl_numbers PL (12 * w + k)
      · rw [if_pos hn, if_neg (Int32.not_le.mpr hn)]
        exact ⟨_, _, rfl, rfl, hS1, hc1, ⟨hO.1, hO.2⟩⟩
      · rw [if_neg hn, if_pos (Int32.not_lt.mp hn), C_finish hP hw hk e1]
        obtain ⟨all', g1, g2, g3, g4⟩ := fin_sim h1 hw hk e1
        exact ⟨_, all', rfl, g1, g2, hc1.tr g3, g4⟩
  · rw [if_neg k07, if_neg k07]
    by_cases k1 : Pl_kinds PL (12 * w + k) = 1
    · obtain ⟨x, hx, ex⟩ := num_lock hP hw hk (Or.inl k1)
      rw [if_pos k1, if_pos k1, if_neg hbt, ex, set_eq hx (by decide), hb, show nI β + 240 + nI x = nI β + nI 240 + nI x from rfl, M_ix (by omega), M_cl (by omega)]
      simp only [Option.bind_some]
      obtain ⟨SC', all', f1, f2, f3⟩ := step_fin h hw hk e (sg_holders hs hx (nI w)) (Chg.up (by omega)) ⟨hO.1, fun y hy => by
        show upd (Sc_holders SC) x (nI w) y = -1 ∨ ∃ w', w' < W ∧ upd (Sc_holders SC) x (nI w) y = nI w'
        by_cases ey : y = x
        · exact Or.inr ⟨w, hw, by rw [ey]; exact if_pos rfl⟩
        · rw [show upd (Sc_holders SC) x (nI w) y = Sc_holders SC y from if_neg ey]
          exact hO.2.1 y hy, hO.2.2⟩ rfl
      exact ⟨SC', all', by rw [f1]; rfl, by rw [f2]; rfl, f3⟩
    · rw [if_neg k1, if_neg k1]
      by_cases k2 : Pl_kinds PL (12 * w + k) = 2
      · obtain ⟨x, hx, ex⟩ := num_lock hP hw hk (Or.inr k2)
        rw [if_pos k2, if_pos k2, ex, at_eq hx (by decide), hb, show nI β + 240 + nI x = nI β + nI 240 + nI x from rfl, M_ix (by omega), M_cl (by omega), hs.2.2.2.2.2.2.2.1 x hx]
        simp only [Option.bind_some]
        by_cases eh : Sc_holders SC x = nI w
        · rw [if_pos eh, if_pos eh, set_eq hx (by decide), M_ix (by omega)]
          simp only [Option.bind_some]
          obtain ⟨SC', all', f1, f2, f3⟩ := step_fin h hw hk e (sg_holders hs hx (-1)) (Chg.up (by omega)) ⟨hO.1, fun y hy => by
            show upd (Sc_holders SC) x (-1) y = -1 ∨ ∃ w', w' < W ∧ upd (Sc_holders SC) x (-1) y = nI w'
            by_cases ey : y = x
            · exact Or.inl (by rw [ey]; exact if_pos rfl)
            · rw [show upd (Sc_holders SC) x (-1) y = Sc_holders SC y from if_neg ey]
              exact hO.2.1 y hy, hO.2.2⟩ rfl
          exact ⟨SC', all', by rw [f1]; rfl, by rw [f2]; rfl, f3⟩
        · rw [if_neg eh, if_neg eh]
          obtain ⟨SC', all', f1, f2, f3⟩ := fin0
          exact ⟨SC', all', by rw [f1]; rfl, by rw [show FX10_goesOn MO (nI w) = _ from f2]; rfl, f3⟩
      · rw [if_neg k2, if_neg k2]
        by_cases k3 : Pl_kinds PL (12 * w + k) = 3
        · obtain ⟨x, hx, ex⟩ := num_pipe hP hw hk (Or.inl k3)
          rw [if_pos k3, if_pos k3, if_neg hbt, ex, add_eq hx (by decide), hb, show nI β + 246 + nI x = nI β + nI 246 + nI x from rfl, M_ix (by omega), M_ix (by omega), M_cl (by omega), hs.2.2.2.2.2.2.2.2.1 x hx]
          simp only [Option.bind_some]
          obtain ⟨SC', all', f1, f2, f3⟩ := step_fin h hw hk e (sg_lies hs hx (Sc_lies SC x + 1)) (Chg.up (by omega)) ⟨hO.1, hO.2⟩ rfl
          exact ⟨SC', all', by rw [f1]; rfl, by rw [f2]; rfl, f3⟩
        · rw [if_neg k3, if_neg k3]
          by_cases k4 : Pl_kinds PL (12 * w + k) = 4
          · obtain ⟨x, hx, ex⟩ := num_pipe hP hw hk (Or.inr k4)
            rw [if_pos k4, if_pos k4, if_neg hbt, ex, add_eq hx (by decide), hb, show nI β + 246 + nI x = nI β + nI 246 + nI x from rfl, M_ix (by omega), M_ix (by omega), M_cl (by omega), hs.2.2.2.2.2.2.2.2.1 x hx]
            simp only [Option.bind_some]
            obtain ⟨SC', all', f1, f2, f3⟩ := step_fin h hw hk e (sg_lies hs hx (Sc_lies SC x + -1)) (Chg.up (by omega)) ⟨hO.1, hO.2⟩ rfl
            exact ⟨SC', all', by rw [f1]; rfl, by rw [show Sc_lies SC x - 1 = Sc_lies SC x + -1 from Int32.sub_eq_add_neg _ _, f2]; rfl, f3⟩
          · rw [if_neg k4, if_neg k4]
            by_cases k5 : Pl_kinds PL (12 * w + k) = 5
            · obtain ⟨x, hx, hne, ex⟩ := num_mate hP hw hk (Or.inl k5)
              rw [if_pos k5, if_pos k5, ex, show nI x * 8 + nI w = nI (8 * x + w) from by rw [show (8 : Int32) = nI 8 from rfl, pk_mul, nI_add]; congr 1; omega, add_eq (by omega) (by decide), M_msg hb]
              simp only [Option.bind_some]
              rw [ix_nI (by omega) (by decide), ix_nI (by omega) (by decide), nI_clamp (show β + 250 + (8 * x + w) < 2 ^ 31 by omega), hs.2.2.2.2.2.2.2.2.2.1 (8 * x + w) (by omega)]
              obtain ⟨SC', all', f1, f2, f3⟩ := step_fin h hw hk e (sg_mail hs (show 8 * x + w < 64 by omega) (Sc_mail SC (8 * x + w) + 1)) (Chg.up (by omega)) ⟨hO.1, hO.2⟩ rfl
              exact ⟨SC', all', by rw [f1]; rfl, by rw [f2]; rfl, f3⟩
            · rw [if_neg k5, if_neg k5]
              by_cases k6 : Pl_kinds PL (12 * w + k) = 6
              · obtain ⟨x, hx, hne, ex⟩ := num_mate hP hw hk (Or.inr k6)
                rw [if_pos k6, if_pos k6, if_neg hbt, ex, show nI w * 8 + nI x = nI (8 * w + x) from by rw [show (8 : Int32) = nI 8 from rfl, pk_mul, nI_add]; congr 1; omega, add_eq (by omega) (by decide), M_msg hb]
                simp only [Option.bind_some]
                rw [ix_nI (by omega) (by decide), ix_nI (by omega) (by decide), nI_clamp (show β + 250 + (8 * w + x) < 2 ^ 31 by omega), hs.2.2.2.2.2.2.2.2.2.1 (8 * w + x) (by omega)]
                obtain ⟨SC', all', f1, f2, f3⟩ := step_fin h hw hk e (sg_mail hs (show 8 * w + x < 64 by omega) (Sc_mail SC (8 * w + x) + -1)) (Chg.up (by omega)) ⟨hO.1, hO.2⟩ rfl
                exact ⟨SC', all', by rw [f1]; rfl, by rw [show Sc_mail SC (8 * w + x) - 1 = Sc_mail SC (8 * w + x) + -1 from Int32.sub_eq_add_neg _ _, f2]; rfl, f3⟩
              · rw [if_neg k6, if_neg k6]
                obtain ⟨SC', all', f1, f2, f3⟩ := fin0
                exact ⟨SC', all', by rw [f1]; rfl, by rw [show FX10_goesOn MO (nI w) = _ from f2]; rfl, f3⟩
end ACT
