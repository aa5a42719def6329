section ACT
variable {PL : PlT} {W : Nat} {ln : Nat → Nat} {SC : ScT} {MO : MoT} {β : Nat}
theorem M_msg {a c : Nat} (hb : Mo_b MO = nI β) : FX10_messageAt MO (nI a) (nI c) = some (nI (β + 250 + (8 * a + c))) := by
  unfold FX10_messageAt
  rw [hb, show (8 : Int32) = nI 8 from rfl, show (250 : Int32) = nI 250 from rfl, pk_mul, nI_add, nI_add, nI_add]
  congr 2
  omega
theorem s_canBe (h : Sim PL W ln SC MO β) {w k : Nat} (hw : w < W) (hk : k < ln w) (e : Sc_place SC w = nI k) : FX10_canBe MO (nI w) = some (canB PL SC w k) := by
  have hP := h.1
  have h8 := h.W8
  have hs := h.2.2.2.1
  have hp := h.2.2.1
  have hb := h.2.2.2.2.1
  have hβ := h.2.2.2.2.2
  unfold FX10_canBe canB
  rw [s_numberNow h hw hk e]
  simp only [Option.bind_some]
  rw [s_sortNow h hw hk e]
  simp only [Option.bind_some, nm]
  by_cases k1 : Pl_kinds PL (12 * w + k) = nI 1
  · obtain ⟨x, hx, ex⟩ := num_lock hP hw hk (Or.inl k1)
    rw [if_pos k1, if_pos (show Pl_kinds PL (12 * w + k) = 1 from k1), ex, hb, show nI β + 240 + nI x = nI β + nI 240 + nI x from rfl, M_ix (by omega), M_cl (by omega), hs.2.2.2.2.2.2.2.1 x hx, nI_clamp (by omega)]
    exact if_dec
  · rw [if_neg k1, if_neg (show ¬ Pl_kinds PL (12 * w + k) = 1 from k1)]
    by_cases k3 : Pl_kinds PL (12 * w + k) = nI 3
    · obtain ⟨x, hx, ex⟩ := num_pipe hP hw hk (Or.inl k3)
      rw [if_pos k3, if_pos (show Pl_kinds PL (12 * w + k) = 3 from k3), ex, hb, show nI β + 246 + nI x = nI β + nI 246 + nI x from rfl, show nI β + 3 + nI x = nI β + nI 3 + nI x from rfl, M_ix (by omega), M_ix (by omega), M_cl (by omega), M_cl (by omega), hs.2.2.2.2.2.2.2.2.1 x hx, hp.2.1 x hx, nI_clamp (by omega)]
      exact if_ndec
    · rw [if_neg k3, if_neg (show ¬ Pl_kinds PL (12 * w + k) = 3 from k3)]
      by_cases k4 : Pl_kinds PL (12 * w + k) = nI 4
      · obtain ⟨x, hx, ex⟩ := num_pipe hP hw hk (Or.inr k4)
        rw [if_pos k4, if_pos (show Pl_kinds PL (12 * w + k) = 4 from k4), ex, hb, show nI β + 246 + nI x = nI β + nI 246 + nI x from rfl, M_ix (by omega), M_cl (by omega), hs.2.2.2.2.2.2.2.2.1 x hx, nI_clamp (by omega)]
        exact if_ndec
      · rw [if_neg k4, if_neg (show ¬ Pl_kinds PL (12 * w + k) = 4 from k4)]
        by_cases k6 : Pl_kinds PL (12 * w + k) = nI 6
        · obtain ⟨x, hx, hne, ex⟩ := num_mate hP hw hk (Or.inr k6)
          rw [if_pos k6, if_pos (show Pl_kinds PL (12 * w + k) = 6 from k6), ex, M_msg hb]
          simp only [Option.bind_some]
          rw [ix_nI (by omega) (by decide), nI_clamp (show β + 250 + (8 * w + x) < 2 ^ 31 by omega), hs.2.2.2.2.2.2.2.2.2.1 (8 * w + x) (by omega), nI_clamp (show x < 2 ^ 31 by omega)]
          exact if_ndec
        · rw [if_neg k6, if_neg (show ¬ Pl_kinds PL (12 * w + k) = 6 from k6)]
/-- behind a small change on both sides the step is done on both sides -/
theorem step_fin (h : Sim PL W ln SC MO β) {w k : Nat} (hw : w < W) (hk : k < ln w) (e : Sc_place SC w = nI k) {SC1 : ScT} {all1 : Nat → Int32} (hS : SegS SC1 all1 β) (hc : Chg β (Mo_all MO) all1) (hO : SceneOK W ln SC1) (hp : Sc_place SC1 = Sc_place SC) :
    ∃ SC' all', FX3_finish SC1 PL (nI w) (Pl_kinds PL (12 * w + k)) = some SC' ∧ FX10_goesOn (sMo_all MO all1) (nI w) = some (sMo_all MO all') ∧ SegS SC' all' β ∧ Chg β (Mo_all MO) all' ∧ SceneOK W ln SC' := by
  have e1 : Sc_place SC1 w = nI k := by rw [hp]; exact e
  obtain ⟨all', g1, g2, g3, g4⟩ := fin_sim (h.to hS hO hc) hw hk e1
  exact ⟨_, all', C_finish h.1 hw hk e1, g1, g2, hc.tr g3, g4⟩
theorem act_sim (h : Sim PL W ln SC MO β) {w k : Nat} (hw : w < W) (hk : k < ln w) (e : Sc_place SC w = nI k) (hcan : canB PL SC w k = true) :
    ∃ SC' all', FX3_act SC PL (nI w) = some SC' ∧ FX10_does MO (nI w) = some (sMo_all MO all') ∧ SegS SC' all' β ∧ Chg β (Mo_all MO) all' ∧ SceneOK W ln SC' := by
  have hP := h.1
  have h8 := h.W8
  have hw8 : w < 8 := by omega
  have hs := h.2.2.2.1
  have hO := h.2.1
  have hb := h.2.2.2.2.1
  have hβ := h.2.2.2.2.2
  have hcb := s_canBe h hw hk e
  rw [hcan] at hcb
  unfold FX3_act FX10_does
  rw [ix_nI hw8 (by decide), nI_clamp (by omega), e, c_number hP hw hk, s_numberNow h hw hk e, s_sortNow h hw hk e]
  simp only [Option.bind_some]
  rw [ix_nI hw8 (by decide), c_kind hP hw hk, hcb]
  simp only [Option.bind_some, nm]
  have hbt : ¬ (bI true = 0) := by decide
  have fin0 := step_fin h hw hk e hs Chg.rf hO rfl
  by_cases k07 : Pl_kinds PL (12 * w + k) = 0 ∨ Pl_kinds PL (12 * w + k) = 7
  · rw [if_pos k07, if_pos k07]
    sorry
  · rw [if_neg k07, if_neg k07]
    by_cases k1 : Pl_kinds PL (12 * w + k) = 1
    · obtain ⟨x, hx, ex⟩ := num_lock hP hw hk (Or.inl k1)
      rw [if_pos k1, if_pos k1, if_neg hbt, ex, set_eq hx (by decide), hb, show nI β + 240 + nI x = nI β + nI 240 + nI x from rfl, M_ix (by omega), M_cl (by omega)]
      simp only [Option.bind_some]
      obtain ⟨SC', all', f1, f2, f3⟩ := step_fin h hw hk e (sg_holders hs hx (nI w)) (Chg.up (by omega)) ⟨hO.1, fun y hy => by
        show upd (Sc_holders SC) x (nI w) y = -1 ∨ ∃ w', w' < W ∧ upd (Sc_holders SC) x (nI w) y = nI w'
        by_cases ey : y = x
        · exact Or.inr ⟨w, hw, by rw [ey]; exact if_pos rfl⟩
        · rw [show upd (Sc_holders SC) x (nI w) y = Sc_holders SC y from if_neg ey]
          exact hO.2 y hy⟩ rfl
      exact ⟨SC', all', by rw [f1]; rfl, by rw [f2]; rfl, f3⟩
    · rw [if_neg k1, if_neg k1]
      by_cases k2 : Pl_kinds PL (12 * w + k) = 2
      · obtain ⟨x, hx, ex⟩ := num_lock hP hw hk (Or.inr k2)
        rw [if_pos k2, if_pos k2, ex, at_eq hx (by decide), hb, show nI β + 240 + nI x = nI β + nI 240 + nI x from rfl, M_ix (by omega), M_cl (by omega), hs.2.2.2.2.2.2.2.1 x hx]
        simp only [Option.bind_some]
        by_cases eh : Sc_holders SC x = nI w
        · rw [if_pos eh, if_pos eh, set_eq hx (by decide), M_ix (by omega)]
          simp only [Option.bind_some]
          obtain ⟨SC', all', f1, f2, f3⟩ := step_fin h hw hk e (sg_holders hs hx (-1)) (Chg.up (by omega)) ⟨hO.1, fun y hy => by
            show upd (Sc_holders SC) x (-1) y = -1 ∨ ∃ w', w' < W ∧ upd (Sc_holders SC) x (-1) y = nI w'
            by_cases ey : y = x
            · exact Or.inl (by rw [ey]; exact if_pos rfl)
            · rw [show upd (Sc_holders SC) x (-1) y = Sc_holders SC y from if_neg ey]
              exact hO.2 y hy⟩ rfl
          exact ⟨SC', all', by rw [f1]; rfl, by rw [f2]; rfl, f3⟩
        · rw [if_neg eh, if_neg eh]
          obtain ⟨SC', all', f1, f2, f3⟩ := fin0
          exact ⟨SC', all', by rw [f1]; rfl, by rw [show FX10_goesOn MO (nI w) = _ from f2]; rfl, f3⟩
      · rw [if_neg k2, if_neg k2]
        by_cases k3 : Pl_kinds PL (12 * w + k) = 3
        · obtain ⟨x, hx, ex⟩ := num_pipe hP hw hk (Or.inl k3)
          rw [if_pos k3, if_pos k3, if_neg hbt, ex, add_eq hx (by decide), hb, show nI β + 246 + nI x = nI β + nI 246 + nI x from rfl, M_ix (by omega), M_ix (by omega), M_cl (by omega), hs.2.2.2.2.2.2.2.2.1 x hx]
          simp only [Option.bind_some]
          obtain ⟨SC', all', f1, f2, f3⟩ := step_fin h hw hk e (sg_lies hs hx (Sc_lies SC x + 1)) (Chg.up (by omega)) ⟨hO.1, hO.2⟩ rfl
          exact ⟨SC', all', by rw [f1]; rfl, by rw [f2]; rfl, f3⟩
        · rw [if_neg k3, if_neg k3]
          by_cases k4 : Pl_kinds PL (12 * w + k) = 4
          · obtain ⟨x, hx, ex⟩ := num_pipe hP hw hk (Or.inr k4)
            rw [if_pos k4, if_pos k4, if_neg hbt, ex, add_eq hx (by decide), hb, show nI β + 246 + nI x = nI β + nI 246 + nI x from rfl, M_ix (by omega), M_ix (by omega), M_cl (by omega), hs.2.2.2.2.2.2.2.2.1 x hx]
            simp only [Option.bind_some]
            obtain ⟨SC', all', f1, f2, f3⟩ := step_fin h hw hk e (sg_lies hs hx (Sc_lies SC x + -1)) (Chg.up (by omega)) ⟨hO.1, hO.2⟩ rfl
            exact ⟨SC', all', by rw [f1]; rfl, by rw [show Sc_lies SC x - 1 = Sc_lies SC x + -1 from Int32.sub_eq_add_neg _ _, f2]; rfl, f3⟩
          · rw [if_neg k4, if_neg k4]
            by_cases k5 : Pl_kinds PL (12 * w + k) = 5
            · obtain ⟨x, hx, hne, ex⟩ := num_mate hP hw hk (Or.inl k5)
              rw [if_pos k5, if_pos k5, ex, show nI x * 8 + nI w = nI (8 * x + w) from by rw [show (8 : Int32) = nI 8 from rfl, pk_mul, nI_add]; congr 1; omega, add_eq (by omega) (by decide), M_msg hb]
              simp only [Option.bind_some]
              rw [ix_nI (by omega) (by decide), ix_nI (by omega) (by decide), nI_clamp (show β + 250 + (8 * x + w) < 2 ^ 31 by omega), hs.2.2.2.2.2.2.2.2.2.1 (8 * x + w) (by omega)]
              obtain ⟨SC', all', f1, f2, f3⟩ := step_fin h hw hk e (sg_mail hs (show 8 * x + w < 64 by omega) (Sc_mail SC (8 * x + w) + 1)) (Chg.up (by omega)) ⟨hO.1, hO.2⟩ rfl
              exact ⟨SC', all', by rw [f1]; rfl, by rw [f2]; rfl, f3⟩
            · rw [if_neg k5, if_neg k5]
              by_cases k6 : Pl_kinds PL (12 * w + k) = 6
              · obtain ⟨x, hx, hne, ex⟩ := num_mate hP hw hk (Or.inr k6)
                rw [if_pos k6, if_pos k6, if_neg hbt, ex, show nI w * 8 + nI x = nI (8 * w + x) from by rw [show (8 : Int32) = nI 8 from rfl, pk_mul, nI_add]; congr 1; omega, add_eq (by omega) (by decide), M_msg hb]
                simp only [Option.bind_some]
                rw [ix_nI (by omega) (by decide), ix_nI (by omega) (by decide), nI_clamp (show β + 250 + (8 * w + x) < 2 ^ 31 by omega), hs.2.2.2.2.2.2.2.2.2.1 (8 * w + x) (by omega)]
                obtain ⟨SC', all', f1, f2, f3⟩ := step_fin h hw hk e (sg_mail hs (show 8 * w + x < 64 by omega) (Sc_mail SC (8 * w + x) + -1)) (Chg.up (by omega)) ⟨hO.1, hO.2⟩ rfl
                exact ⟨SC', all', by rw [f1]; rfl, by rw [show Sc_mail SC (8 * w + x) - 1 = Sc_mail SC (8 * w + x) + -1 from Int32.sub_eq_add_neg _ _, f2]; rfl, f3⟩
              · rw [if_neg k6, if_neg k6]
                obtain ⟨SC', all', f1, f2, f3⟩ := fin0
                exact ⟨SC', all', by rw [f1]; rfl, by rw [show FX10_goesOn MO (nI w) = _ from f2]; rfl, f3⟩
end ACT
