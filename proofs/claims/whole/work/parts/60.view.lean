/-! ===== a look of the class, and the reference's sets ===== -/
section VIEW
variable {μ : Prop} {PL : PlT} {W : Nat} {ln : Nat → Nat} {SC : ScT} {MO : MoT} {β : Nat}
theorem look_a {VW : VwT} (hP : PlanOK PL W ln) (hR : ReachOK PL W ln) (hS : SceneOK W ln SC) (hw : Vw_workers VW = nI W) : ∃ f, itr (FX7_look_25 PL SC) ((0 : Int32), VW) = some (sVw_can VW f) ∧ ∀ w, w < W → ∀ κ n i, Want κ n i → bt (f w) i = cnB PL ln SC w κ n := by
  have h8 := hP.2.1
  obtain ⟨e, q1, f, rfl, q2⟩ := itr_inv (f := FX7_look_25 PL SC) (Q := fun e => ∃ f, e = sVw_can VW f ∧ ∀ w, w < W → ∀ κ n i, Want κ n i → bt (f w) i = cnB PL ln SC w κ n) (fun j t => ∃ f, t = (nI j, sVw_can VW f) ∧ ∀ w, w < j → ∀ κ n i, Want κ n i → bt (f w) i = cnB PL ln SC w κ n) W (by
    rintro j t hj ⟨f, rfl, hf⟩
    unfold FX7_look_25
    simp only [nm]
    rw [show Vw_workers (sVw_can VW f) = nI W from hw, nI_1]
    by_cases hjW : j < W
    · left
      refine ⟨hjW, ?_⟩
      obtain ⟨m, m1, m2⟩ := c_can hP hR hS hjW
      rw [if_neg (nI_ge hjW (by omega)), ix_nI (by omega) (by decide), nI_clamp (by omega), m1]
      simp only [Option.bind_some]
      rw [ix_nI (by omega) (by decide)]
      refine ⟨_, rfl, upd f j m, rfl, fun w hw' κ n i hi => ?_⟩
      by_cases e : w = j
      · subst e
        rw [show upd f w m w = m from if_pos rfl]
        exact m2 κ n i hi
      · rw [show upd f j m w = f w from if_neg e]
        exact hf w (by omega) κ n i hi
    · right
      have : j = W := by omega
      subst this
      rw [if_pos (nI_le (Nat.le_refl _) (by omega))]
      exact ⟨_, rfl, f, rfl, hf⟩) (s := ((0 : Int32), VW)) ⟨Vw_can VW, rfl, fun w hw => by omega⟩
  exact ⟨f, q1, q2⟩
/-- what a look has found of the workers below i -/
def lkS (VW : VwT) (a b c : Int32) (g : Nat → Int32) : VwT := sVw_waitsFor (sVw_freeToGo (sVw_heldUp (sVw_ended VW a) b) c) g
theorem look_b {VW : VwT} (hP : PlanOK PL W ln) (hS : SceneOK W ln SC) (hV : MaskOK PL W ln SC VW) (h1 : Vw_ended VW = 0) (h2 : Vw_heldUp VW = 0) (h3 : Vw_freeToGo VW = 0) : ∃ g, itr (FX7_look_58 PL SC) ((0 : Int32), VW) = some (lkS VW (mk (enB SC) W) (mk (heB PL SC) W) (mk (fr0 PL SC) W) g) ∧ ∀ w, w < W → g w = wt PL W ln SC w := by
  have h8 := hP.2.1
  obtain ⟨e, q1, g, rfl, q2⟩ := itr_inv (f := FX7_look_58 PL SC) (Q := fun e => ∃ g, e = lkS VW (mk (enB SC) W) (mk (heB PL SC) W) (mk (fr0 PL SC) W) g ∧ ∀ w, w < W → g w = wt PL W ln SC w) (fun j t => ∃ g, t = (nI j, lkS VW (mk (enB SC) j) (mk (heB PL SC) j) (mk (fr0 PL SC) j) g) ∧ ∀ w, w < j → g w = wt PL W ln SC w) W (by
    rintro j t hj ⟨g, rfl, hg⟩
    unfold FX7_look_58
    simp only [nm]
    rw [show Vw_workers (lkS VW (mk (enB SC) j) (mk (heB PL SC) j) (mk (fr0 PL SC) j) g) = nI W from hV.1, nI_1]
    by_cases hjW : j < W
    · left
      refine ⟨hjW, ?_⟩
      have h12 := (hP.2.2.1 j hjW).2.2
      rw [if_neg (nI_ge hjW (by omega)), ix_nI (by omega) (by decide), ix_nI (by omega) (by decide), nI_clamp (by omega)]
      rcases hS.1 j hjW with e | ⟨k, hk, e⟩
      · have e1 : enB SC j = true := en_t e
        have e2 : heB PL SC j = false := by unfold heB; rw [e1]; rfl
        have e3 : fr0 PL SC j = false := by unfold fr0; rw [e1]; rfl
        rw [if_pos e]
        refine ⟨_, rfl, upd g j 0, ?_, fun w hw' => ?_⟩
        · rw [← mk_t e1, ← mk_f e2, ← mk_f e3]
          rfl
        · by_cases ew : w = j
          · subst ew
            rw [show upd g w 0 w = 0 from if_pos rfl]
            unfold wt
            rw [e2, if_neg (by decide)]
          · rw [show upd g j 0 w = g w from if_neg ew]
            exact hg w (by omega)
      · have e1 : enB SC j = false := en_f e (by omega)
        have ep : pl SC j = k := pl_eq e (by omega)
        rw [if_neg (by rw [e]; exact nI_m1 k (by omega)), c_canDo hP hjW hk e]
        simp only [Option.bind_some]
        cases hc : canB PL SC j k
        · have e2 : heB PL SC j = true := by unfold heB; rw [e1, ep, hc]; rfl
          have e3 : fr0 PL SC j = false := by unfold fr0; rw [e1, ep, hc]; rfl
          rw [if_pos bI_f]
          have hV' : MaskOK PL W ln SC (sVw_heldUp (sVw_waitsFor (lkS VW (mk (enB SC) j) (mk (heB PL SC) j) (mk (fr0 PL SC) j) g) (upd g j 0)) (mk (heB PL SC) j ||| ((1 : Int32) <<< (nI j &&& 31)))) := hV
          rw [show FX7_waitsOf (sVw_heldUp (sVw_waitsFor (lkS VW (mk (enB SC) j) (mk (heB PL SC) j) (mk (fr0 PL SC) j) g) (upd (Vw_waitsFor (lkS VW (mk (enB SC) j) (mk (heB PL SC) j) (mk (fr0 PL SC) j) g)) j 0)) (Vw_heldUp (sVw_waitsFor (lkS VW (mk (enB SC) j) (mk (heB PL SC) j) (mk (fr0 PL SC) j) g) (upd (Vw_waitsFor (lkS VW (mk (enB SC) j) (mk (heB PL SC) j) (mk (fr0 PL SC) j) g)) j 0)) ||| ((1 : Int32) <<< (nI j &&& 31)))) PL SC (nI j) = some (wt PL W ln SC j) from c_waits hP hS hV' hjW e2]
          simp only [Option.bind_some]
          rw [ix_nI (by omega) (by decide)]
          refine ⟨_, rfl, upd (upd g j 0) j (wt PL W ln SC j), ?_, fun w hw' => ?_⟩
          · rw [← mk_f e1, ← mk_t e2, ← mk_f e3]
            rfl
          · by_cases ew : w = j
            · subst ew
              exact if_pos rfl
            · rw [show upd (upd g j 0) j (wt PL W ln SC j) w = g w from (if_neg ew).trans (if_neg ew)]
              exact hg w (by omega)
        · have e2 : heB PL SC j = false := by unfold heB; rw [e1, ep, hc]; rfl
          have e3 : fr0 PL SC j = true := by unfold fr0; rw [e1, ep, hc]; rfl
          rw [if_neg bI_t]
          refine ⟨_, rfl, upd g j 0, ?_, fun w hw' => ?_⟩
          · rw [← mk_f e1, ← mk_f e2, ← mk_t e3]
            rfl
          · by_cases ew : w = j
            · subst ew
              rw [show upd g w 0 w = 0 from if_pos rfl]
              unfold wt
              rw [e2, if_neg (by decide)]
            · rw [show upd g j 0 w = g w from if_neg ew]
              exact hg w (by omega)
    · right
      have : j = W := by omega
      subst this
      rw [if_pos (nI_le (Nat.le_refl _) (by omega))]
      exact ⟨_, rfl, g, rfl, hg⟩) (s := ((0 : Int32), VW)) ⟨Vw_waitsFor VW, by
        show _ = (nI 0, lkS VW 0 0 0 (Vw_waitsFor VW))
        unfold lkS
        rw [show sVw_ended VW 0 = VW from by rw [← h1], show sVw_heldUp VW 0 = VW from by rw [← h2], show sVw_freeToGo VW 0 = VW from by rw [← h3]]
        rfl, fun w hw => by omega⟩
  exact ⟨g, q1, q2⟩
theorem c_look (VW : VwT) (hP : PlanOK PL W ln) (hR : ReachOK PL W ln) (hS : SceneOK W ln SC) : ∃ VW', FX7_look VW PL SC = some VW' ∧ ViewOK PL W ln SC VW' := by
  have h8 := hP.2.1
  unfold FX7_look
  simp only [nm]
  rw [hP.1]
  obtain ⟨f, a1, a2⟩ := look_a (VW := sVw_freeToGo (sVw_heldUp (sVw_ended (sVw_workers VW (nI W)) 0) 0) 0) hP hR hS rfl
  rw [a1]
  simp only [Option.bind_some]
  obtain ⟨g, b1, b2⟩ := look_b (VW := sVw_can (sVw_freeToGo (sVw_heldUp (sVw_ended (sVw_workers VW (nI W)) 0) 0) 0) f) hP hS ⟨rfl, a2⟩ rfl rfl rfl
  rw [b1]
  simp only [Option.bind_some]
  rw [c_spread (wf := wt PL W ln SC) h8 (show Vw_workers (lkS (sVw_can (sVw_freeToGo (sVw_heldUp (sVw_ended (sVw_workers VW (nI W)) 0) 0) 0) f) (mk (enB SC) W) (mk (heB PL SC) W) (mk (fr0 PL SC) W) g) = nI W from rfl) b2]
  simp only [Option.bind_some]
  rw [c_late hP hS rfl rfl rfl]
  exact ⟨_, rfl, rfl, rfl, rfl, rfl, rfl, rfl, rfl, rfl, b2⟩
/-! the reference -/
theorem s_free (h : Sim μ PL W ln SC MO β) : FX10_freeToGo MO = some (frS PL W ln SC) := by
  have h8 := h.W8
  have q1 : itr (FX10_freeToGo_4 MO) ((0 : Int32), (0 : Int32)) = some (mk (fr0 PL SC) W) := by
    refine itr_chain (fun i => (mk (fr0 PL SC) i, nI i)) W (fun i hi => ?_) ?_
    · unfold FX10_freeToGo_4
      rw [s_workers h]
      simp only [Option.bind_some, nm]
      rw [if_neg (nI_ge hi (by omega)), nI_1, s_ended h hi, s_held h hi]
      simp only [Option.bind_some]
      show (if bI (enB SC i) = 0 then _ else _) = _
      cases e1 : enB SC i
      · rw [if_pos bI_f]
        cases e2 : heB PL SC i
        · rw [if_pos bI_f, mk_t (P := fr0 PL SC) (n := i) (by
            unfold heB at e2
            unfold fr0
            rw [e1] at e2 ⊢
            cases z : canB PL SC i (pl SC i)
            · rw [z] at e2
              exact absurd e2 (by decide)
            · rfl)]
        · rw [if_neg bI_t, ← mk_f (P := fr0 PL SC) (n := i) (by
            unfold heB at e2
            unfold fr0
            rw [e1] at e2 ⊢
            cases z : canB PL SC i (pl SC i)
            · rfl
            · rw [z] at e2
              exact absurd e2 (by decide))]
      · rw [if_neg bI_t, ← mk_f (P := fr0 PL SC) (n := i) (by unfold fr0; rw [e1]; rfl)]
    · unfold FX10_freeToGo_4
      rw [s_workers h]
      simp only [Option.bind_some]
      rw [if_pos (nI_le (Nat.le_refl _) (by omega))]
  have q2 : ∀ s, itr (FX10_freeToGo_52 MO) (s, (0 : Int32)) = some (rd (wt PL W ln SC) s W) := by
    intro s
    refine itr_chain (fun i => (rd (wt PL W ln SC) s i, nI i)) W (fun i hi => ?_) ?_
    · unfold FX10_freeToGo_52
      rw [s_workers h]
      simp only [Option.bind_some, nm]
      rw [if_neg (nI_ge hi (by omega)), nI_1, s_ended h hi, s_waits h hi]
      simp only [Option.bind_some]
      show (if bI (enB SC i) = 0 then _ else _) = _
      cases e1 : enB SC i
      · rw [if_pos bI_f]
        by_cases y : wt PL W ln SC i &&& rd (wt PL W ln SC) s i = 0
        · rw [if_pos y, show rd (wt PL W ln SC) s (i + 1) = rd (wt PL W ln SC) s i from if_pos y]
        · rw [if_neg y, show rd (wt PL W ln SC) s (i + 1) = rd (wt PL W ln SC) s i ||| ((1 : Int32) <<< (nI i &&& 31)) from if_neg y]
      · have y : wt PL W ln SC i &&& rd (wt PL W ln SC) s i = 0 := by
          have hz : wt PL W ln SC i = 0 := by
            unfold wt
            rw [show heB PL SC i = false from by unfold heB; rw [e1]; rfl, if_neg (by decide)]
          rw [hz]
          apply b_ext
          intro j hj
          rw [b_and, b_0]
          rfl
        rw [if_neg bI_t, show rd (wt PL W ln SC) s (i + 1) = rd (wt PL W ln SC) s i from if_pos y]
    · unfold FX10_freeToGo_52
      rw [s_workers h]
      simp only [Option.bind_some]
      rw [if_pos (nI_le (Nat.le_refl _) (by omega))]
  have q3 : itr (FX10_freeToGo_42 MO) (mk (fr0 PL SC) W, (0 : Int32)) = some (frS PL W ln SC) := by
    refine itr_chain (fun i => (rds (wt PL W ln SC) W (mk (fr0 PL SC) W) i, nI i)) W (fun i hi => ?_) ?_
    · unfold FX10_freeToGo_42
      rw [s_workers h]
      simp only [Option.bind_some, nm]
      rw [if_neg (nI_ge hi (by omega)), nI_1, q2]
      rfl
    · unfold FX10_freeToGo_42
      rw [s_workers h]
      simp only [Option.bind_some]
      rw [if_pos (nI_le (Nat.le_refl _) (by omega))]
      rfl
  unfold FX10_freeToGo
  rw [q1, Option.bind_some, q3]
  rfl
theorem s_hard (h : Sim μ PL W ln SC MO β) : FX10_hard MO = some (hdS PL W ln SC) := by
  have h8 := h.W8
  have q1 : itr (FX10_hard_4 MO) ((0 : Int32), (0 : Int32)) = some (mk (fun w => !enB SC w) W) := by
    refine itr_chain (fun i => (mk (fun w => !enB SC w) i, nI i)) W (fun i hi => ?_) ?_
    · unfold FX10_hard_4
      rw [s_workers h]
      simp only [Option.bind_some, nm]
      rw [if_neg (nI_ge hi (by omega)), nI_1, s_ended h hi]
      simp only [Option.bind_some]
      show (if bI (enB SC i) = 0 then _ else _) = _
      cases e1 : enB SC i
      · rw [if_pos bI_f, mk_t (P := fun w => !enB SC w) (n := i) (by show (!enB SC i) = true; rw [e1]; rfl)]
      · rw [if_neg bI_t, ← mk_f (P := fun w => !enB SC w) (n := i) (by show (!enB SC i) = false; rw [e1]; rfl)]
    · unfold FX10_hard_4
      rw [s_workers h]
      simp only [Option.bind_some]
      rw [if_pos (nI_le (Nat.le_refl _) (by omega))]
  unfold FX10_hard
  rw [q1, Option.bind_some, s_free h, Option.bind_some, hd_alt h8]
theorem s_quiet (h : Sim μ PL W ln SC MO β) {w : Nat} (hw : w < W) : FX10_quiet MO (nI w) = some (qt SC w) := by
  have h8 := h.W8
  have hb := h.2.2.2.2.1
  have hβ := h.2.2.2.2.2
  have hs := h.2.2.2.1
  unfold FX10_quiet qt
  simp only [nm]
  rw [hb, show nI β + 207 = nI (β + 207) from nI_add β 207, ix_nI (by omega) (by decide), show nI β + 224 + nI w = nI β + nI 224 + nI w from rfl, M_ix (by omega), M_cl (by omega), nI_clamp (show β + 207 < 2 ^ 31 by omega), hs.2.2.1, hs.2.2.2.2.2.1 w (by omega)]
theorem s_soft (h : Sim μ PL W ln SC MO β) {w : Nat} (hw : w < W) : FX10_isSoft MO (nI w) (hdS PL W ln SC) = some (soB PL W ln SC w) := by
  have h8 := h.W8
  have hb := h.2.2.2.2.1
  have hβ := h.2.2.2.2.2
  have hs := h.2.2.2.1
  unfold FX10_isSoft soB quB
  simp only [nm]
  rw [s_held h hw, Option.bind_some]
  cases heB PL SC w
  · rw [if_pos bI_f]
    rfl
  · rw [if_neg bI_t, m_has _ (show w < 32 by omega), Option.bind_some]
    cases bt (hdS PL W ln SC) w
    · rw [if_pos bI_f, s_quiet h hw, Option.bind_some, hb, show nI β + 1 = nI (β + 1) from nI_add β 1, ix_nI (by omega) (by decide), nI_clamp (show β + 1 < 2 ^ 31 by omega), hs.1]
      exact if_ndec
    · rw [if_neg bI_t]
      rfl
theorem s_slow (h : Sim μ PL W ln SC MO β) {w : Nat} (hw : w < W) : FX10_isSlow MO (nI w) = some (slB PL SC w) := by
  have h8 := h.W8
  have hb := h.2.2.2.2.1
  have hβ := h.2.2.2.2.2
  have hs := h.2.2.2.1
  unfold FX10_isSlow slB
  simp only [nm]
  rw [s_ended h hw, Option.bind_some]
  rcases h.alt hw with e | ⟨k, hk, e⟩
  · rw [decide_eq_true e, if_neg bI_t, en_t e]
    rfl
  · have h12 := (h.1.2.2.1 w hw).2.2
    have ne : ¬ Sc_place SC w = -1 := by rw [e]; exact nI_m1 k (by omega)
    rw [decide_eq_false ne, if_pos bI_f, en_f e (by omega), s_sortNow h hw hk e, Option.bind_some]
    unfold kdN
    rw [pl_eq e (by omega)]
    by_cases k7 : Pl_kinds PL (12 * w + k) = 7
    · rw [if_pos k7, decide_eq_true (show Pl_kinds PL (12 * w + k) = nI 7 from k7), s_quiet h hw, Option.bind_some, hb, show nI β + 1 = nI (β + 1) from nI_add β 1, show nI β + 2 = nI (β + 2) from nI_add β 2, ix_nI (by omega) (by decide), ix_nI (by omega) (by decide), nI_clamp (show β + 1 < 2 ^ 31 by omega), nI_clamp (show β + 2 < 2 ^ 31 by omega), hs.1, hs.2.1]
      exact if_ndec
    · rw [if_neg k7, decide_eq_false (show ¬ Pl_kinds PL (12 * w + k) = nI 7 from k7)]
      rfl
end VIEW
