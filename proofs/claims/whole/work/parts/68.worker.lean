/-! ===== worker, freed ===== -/
section WORKER
variable {μ : Prop} {PL : PlT} {W : Nat} {ln : Nat → Nat} {SC : ScT} {MO : MoT} {β : Nat}
def lkB (SC : ScT) (w x : Nat) : Bool := decide (Sc_holders SC x = nI w)
theorem c_locks {w : Nat} : FX3_locksOf SC (nI w) = some (mk (lkB SC w) 6) := by
  have q : itr (FX3_locksOf_4 SC (nI w)) ((0 : Int32), (0 : Int32)) = some (mk (lkB SC w) 6) := by
    refine itr_chain (fun i => (mk (lkB SC w) i, nI i)) 6 (fun i hi => ?_) ?_
    · unfold FX3_locksOf_4
      simp only [nm]
      rw [if_neg (show ¬ (6 : Int32) ≤ nI i from nI_ge hi (by decide)), ix_nI hi (by decide), nI_clamp (by omega), nI_1]
      by_cases c : Sc_holders SC i = nI w
      · rw [if_pos c, mk_t (P := lkB SC w) (n := i) (decide_eq_true c)]
      · rw [if_neg c, ← mk_f (P := lkB SC w) (n := i) (decide_eq_false c)]
    · unfold FX3_locksOf_4
      rw [if_pos (show (6 : Int32) ≤ nI 6 by decide)]
  unfold FX3_locksOf
  rw [q]
  rfl
theorem s_locks (h : Sim μ PL W ln SC MO β) {w : Nat} : FX10_locks MO (nI w) = some (mk (lkB SC w) 6) := by
  have hb := h.2.2.2.2.1
  have hβ := h.2.2.2.2.2
  have q : itr (FX10_locks_4 MO (nI w)) ((0 : Int32), (0 : Int32)) = some (mk (lkB SC w) 6) := by
    refine itr_chain (fun i => (mk (lkB SC w) i, nI i)) 6 (fun i hi => ?_) ?_
    · unfold FX10_locks_4
      simp only [nm]
      rw [if_neg (show ¬ (6 : Int32) ≤ nI i from nI_ge hi (by decide)), hb, show nI β + 240 + nI i = nI β + nI 240 + nI i from rfl, M_ix (by omega), M_cl (by omega), h.2.2.2.1.2.2.2.2.2.2.2.1 i hi, nI_1]
      by_cases c : Sc_holders SC i = nI w
      · rw [if_pos c, mk_t (P := lkB SC w) (n := i) (decide_eq_true c)]
      · rw [if_neg c, ← mk_f (P := lkB SC w) (n := i) (decide_eq_false c)]
    · unfold FX10_locks_4
      rw [if_pos (show (6 : Int32) ≤ nI 6 by decide)]
  unfold FX10_locks
  rw [q]
  rfl
theorem flag_eq (b : Bool) : FX10_flag (bI b) = some (bI b) := by
  unfold FX10_flag
  cases b
  · rw [if_pos bI_f]
    rfl
  · rw [if_neg bI_t]
    rfl
/-- what seen() answers -/
def snV (PL : PlT) (W : Nat) (ln : Nat → Nat) (SC : ScT) (w : Nat) (v : Int32) : Int32 := if v = 6 then bI (heB PL SC w) else if v = 7 then bI (bt (hdS PL W ln SC) w) else if v = 8 then bI (soB PL W ln SC w) else if v = 9 then bI (slB PL SC w) else if v = 10 then bkS PL W ln SC w else if v = 11 then nbS PL W ln SC w else -1
theorem bsel {α : Type} (b : Bool) (f : Int32 → α) : (if bI b = 0 then f 0 else f 1) = f (bI b) := by
  cases b
  · rw [if_pos bI_f]
    rfl
  · rw [if_neg bI_t]
    rfl
theorem c_seen {WD : WdT} {TR : TrT} {ST : ScT} {VT VW : VwT} (hP : PlanOK PL W ln) (hR : ReachOK PL W ln) (hS : SceneOK W ln SC) (hN : NormS SC) (hNt : NormS ST) {w : Nat} (hw : w < W) (v : Int32) : ∃ TR' ST' VT' VW', FX9_seen WD PL SC TR ST VT VW (nI w) v = some (snV PL W ln SC w v, TR', ST', VT', VW') ∧ NormS ST' := by
  have h8 := hP.2.1
  obtain ⟨VW', l1, l2⟩ := c_look VW hP hR hS
  unfold FX9_seen FX9_lookNow snV
  rw [l1]
  simp only [Option.bind_some]
  rw [l2.2.2.1, l2.2.2.2.2.1, l2.2.2.2.2.2.1, l2.2.2.2.2.2.2.1, c_has _ (show w < 8 by omega), c_has _ (show w < 8 by omega), c_has _ (show w < 8 by omega), c_has _ (show w < 8 by omega), b_mk _ W (by omega) w (by omega), b_mk _ W (by omega) w (by omega), b_mk _ W (by omega) w (by omega), decide_eq_true hw]
  simp only [Option.bind_some, Bool.true_and]
  by_cases c6 : v = 6
  · rw [if_pos c6, if_pos c6]
    exact ⟨_, _, _, _, bsel (heB PL SC w) (fun x => some (x, TR, ST, VT, VW')), hNt⟩
  rw [if_neg c6, if_neg c6]
  by_cases c7 : v = 7
  · rw [if_pos c7, if_pos c7]
    exact ⟨_, _, _, _, bsel (bt (hdS PL W ln SC) w) (fun x => some (x, TR, ST, VT, VW')), hNt⟩
  rw [if_neg c7, if_neg c7]
  by_cases c8 : v = 8
  · rw [if_pos c8, if_pos c8]
    exact ⟨_, _, _, _, bsel (soB PL W ln SC w) (fun x => some (x, TR, ST, VT, VW')), hNt⟩
  rw [if_neg c8, if_neg c8]
  by_cases c9 : v = 9
  · rw [if_pos c9, if_pos c9]
    exact ⟨_, _, _, _, bsel (slB PL SC w) (fun x => some (x, TR, ST, VT, VW')), hNt⟩
  rw [if_neg c9, if_neg c9]
  by_cases c10 : v = 10
  · rw [if_pos c10, if_pos c10]
    obtain ⟨TR', ST', VT', w1, w2, w3⟩ := c_weigh (TR := TR) (SCt := ST) (VWt := VT) hP hR hS hN hNt l2
    rw [w1]
    simp only [Option.bind_some]
    rw [c_block h8 w2 l2 hw]
    exact ⟨_, _, _, _, rfl, w3⟩
  rw [if_neg c10, if_neg c10]
  by_cases c11 : v = 11
  · rw [if_pos c11, if_pos c11, c_nb h8 l2 hw]
    exact ⟨_, _, _, _, rfl, hNt⟩
  rw [if_neg c11, if_neg c11]
  exact ⟨_, _, _, _, rfl, hNt⟩
end WORKER
/-- what worker() answers -/
def wkV (PL : PlT) (W : Nat) (ln : Nat → Nat) (SC : ScT) (w : Nat) (v : Int32) : Int32 := if v = 0 then Sc_place SC w else if v = 1 then (if enB SC w = true then -1 else kdN PL SC w) else if v = 2 then (if enB SC w = true then -1 else nuN PL SC w) else if v = 3 then (if enB SC w = true then -1 else Sc_ticked SC w) else if v = 4 then qt SC w else if v = 5 then Sc_steps SC w else if v = 12 then mk (lkB SC w) 6 else if v = 13 then Pl_lengths PL w else snV PL W ln SC w v
theorem b_worker : B_worker Rel := by
  rintro ⟨WD, PL, SC, SK, TP, HI, HS, HK, RD, PD, VW, TR, ST, VT, SF, IM⟩ MO v1 v2 h
  have h' := h
  obtain ⟨W, ln, h1, h2, h3, -, -, -, -, ⟨x1, x2, x3⟩, -⟩ := h'
  have hP : PlanOK PL W ln := h3.1
  have hO : SceneOK W ln SC := h3.2.1
  have hN : NormS SC := h3.2.2.2.1.2.2.2.2.2.2.2.2.2.2.2
  have h8 := hP.2.1
  show ∃ q g, FX9_worker WD PL SC TR ST VT VW v1 v2 = some q ∧ FX10_worker MO v1 v2 = some g ∧ q.1 = g.1 ∧ Rel (WD, PL, SC, SK, TP, HI, HS, HK, RD, PD, q.2.2.2.2, q.2.1, q.2.2.1, q.2.2.2.1, SF, IM) g.2
  rcases s_isW h3 v1 with ⟨w, hw, rfl, ew⟩ | ⟨c, ew⟩
  · have ca : ∃ TR' ST' VT' VW', FX9_worker WD PL SC TR ST VT VW (nI w) v2 = some (wkV PL W ln SC w v2, TR', ST', VT', VW') ∧ NormS ST' := by
      have x2' : NormS ST := x2
      unfold FX9_worker wkV
      simp only [nm]
      rw [c_isW hP hw, Option.bind_some, if_neg bI_t, ix_nI (show w < 8 by omega) (by decide), nI_clamp (by omega)]
      by_cases c0 : v2 = 0
      · rw [if_pos c0, if_pos c0]
        exact ⟨_, _, _, _, rfl, x2'⟩
      rw [if_neg c0, if_neg c0]
      by_cases c1 : v2 = 1
      · rw [if_pos c1, if_pos c1]
        rcases hO.1 w hw with e | ⟨k, hk, e⟩
        · rw [en_t e, if_pos rfl, e, kindAt_neg hP.1 h8 hw]
          exact ⟨_, _, _, _, rfl, x2'⟩
        · have h12 := (hP.2.2.1 w hw).2.2
          unfold kdN
          rw [en_f e (by omega), if_neg (by decide), e, c_kind hP hw hk, pl_eq e (by omega)]
          exact ⟨_, _, _, _, rfl, x2'⟩
      rw [if_neg c1, if_neg c1]
      by_cases c2 : v2 = 2
      · rw [if_pos c2, if_pos c2]
        rcases hO.1 w hw with e | ⟨k, hk, e⟩
        · rw [en_t e, if_pos rfl, e, numberAt_neg hP.1 h8 hw]
          exact ⟨_, _, _, _, rfl, x2'⟩
        · have h12 := (hP.2.2.1 w hw).2.2
          unfold nuN
          rw [en_f e (by omega), if_neg (by decide), e, c_number hP hw hk, pl_eq e (by omega)]
          exact ⟨_, _, _, _, rfl, x2'⟩
      rw [if_neg c2, if_neg c2]
      by_cases c3 : v2 = 3
      · rw [if_pos c3, if_pos c3]
        by_cases e : Sc_place SC w = -1
        · rw [if_pos e, en_t e, if_pos rfl]
          exact ⟨_, _, _, _, rfl, x2'⟩
        · rw [if_neg e, show enB SC w = false from decide_eq_false e, if_neg (by decide), ix_nI (show w < 8 by omega) (by decide)]
          exact ⟨_, _, _, _, rfl, x2'⟩
      rw [if_neg c3, if_neg c3]
      by_cases c4 : v2 = 4
      · rw [if_pos c4, if_pos c4, quiet_eq (show w < 8 by omega)]
        exact ⟨_, _, _, _, rfl, x2'⟩
      rw [if_neg c4, if_neg c4]
      by_cases c5 : v2 = 5
      · rw [if_pos c5, if_pos c5, ix_nI (show w < 8 by omega) (by decide)]
        exact ⟨_, _, _, _, rfl, x2'⟩
      rw [if_neg c5, if_neg c5]
      by_cases c12 : v2 = 12
      · rw [if_pos c12, if_pos c12, c_locks]
        exact ⟨_, _, _, _, rfl, x2'⟩
      rw [if_neg c12, if_neg c12]
      by_cases c13 : v2 = 13
      · rw [if_pos c13, if_pos c13, ix_nI (show w < 8 by omega) (by decide)]
        exact ⟨_, _, _, _, rfl, x2'⟩
      rw [if_neg c13, if_neg c13]
      obtain ⟨TR', ST', VT', VW', s1, s2⟩ := c_seen (WD := WD) (TR := TR) (ST := ST) (VT := VT) (VW := VW) hP h1 hO hN x2' hw v2
      rw [s1]
      exact ⟨_, _, _, _, rfl, s2⟩
    have cb : ∃ all', FX10_worker MO (nI w) v2 = some (wkV PL W ln SC w v2, sMo_all MO all') ∧ OutO (Mo_all MO) all' := by
      have body : (enB SC w = false ∨ (¬ v2 = 0 ∧ ¬ v2 = 1 ∧ ¬ v2 = 2 ∧ ¬ v2 = 3)) → ∃ all', (if v2 = 0 then (FX10_place MO (nI w)).bind (fun r45 => some (r45, MO)) else if v2 = 1 then (FX10_sortNow MO (nI w)).bind (fun r47 => some (r47, MO)) else if v2 = 2 then (FX10_numberNow MO (nI w)).bind (fun r49 => some (r49, MO)) else if v2 = 3 then ix (216 + nI w) 9519 (some (Mo_all MO (216 + nI w).toNatClampNeg, MO)) else if v2 = 4 then (FX10_quiet MO (nI w)).bind (fun r54 => some (r54, MO)) else if v2 = 5 then ix (232 + nI w) 9519 (some (Mo_all MO (232 + nI w).toNatClampNeg, MO)) else if v2 = 6 then (FX10_isHeldUp MO (nI w)).bind (fun r59 => (FX10_flag (bI r59)).bind (fun r60 => some (r60, MO))) else if v2 = 7 then (FX10_has (hdS PL W ln SC) (nI w)).bind (fun r62 => (FX10_flag (bI r62)).bind (fun r63 => some (r63, MO))) else if v2 = 8 then (FX10_isSoft MO (nI w) (hdS PL W ln SC)).bind (fun r65 => (FX10_flag (bI r65)).bind (fun r66 => some (r66, MO))) else if v2 = 9 then (FX10_isSlow MO (nI w)).bind (fun r68 => (FX10_flag (bI r68)).bind (fun r69 => some (r69, MO))) else if v2 = 10 then (FX10_blocker MO (nI w) (hdS PL W ln SC)).bind (fun r71 => some (r71.1, r71.2)) else if v2 = 11 then (FX10_neighbour MO (nI w) (hdS PL W ln SC)).bind (fun r73 => some (r73, MO)) else if v2 = 12 then (FX10_locks MO (nI w)).bind (fun r75 => some (r75, MO)) else if v2 = 13 then ix (7 + nI w) 9519 (some (Mo_all MO (7 + nI w).toNatClampNeg, MO)) else some (-1, MO)) = some (wkV PL W ln SC w v2, sMo_all MO all') ∧ OutO (Mo_all MO) all' := by
        intro hv
        unfold wkV snV
        by_cases c0 : v2 = 0
        · rw [if_pos c0, if_pos c0, s_place h3 hw]
          exact ⟨Mo_all MO, rfl, OutO.rf⟩
        rw [if_neg c0, if_neg c0]
        by_cases c1 : v2 = 1
        · have e : enB SC w = false := by rcases hv with z | z; exact z; exact absurd c1 z.2.1
          rcases hO.1 w hw with e' | ⟨k, hk, e'⟩
          · rw [en_t e'] at e
            exact absurd e (by decide)
          · have h12 := (hP.2.2.1 w hw).2.2
            unfold kdN
            rw [if_pos c1, if_pos c1, e, if_neg (by decide), s_sortNow h3 hw hk e', pl_eq e' (by omega)]
            exact ⟨Mo_all MO, rfl, OutO.rf⟩
        rw [if_neg c1, if_neg c1]
        by_cases c2 : v2 = 2
        · have e : enB SC w = false := by rcases hv with z | z; exact z; exact absurd c2 z.2.2.1
          rcases hO.1 w hw with e' | ⟨k, hk, e'⟩
          · rw [en_t e'] at e
            exact absurd e (by decide)
          · have h12 := (hP.2.2.1 w hw).2.2
            unfold nuN
            rw [if_pos c2, if_pos c2, e, if_neg (by decide), s_numberNow h3 hw hk e', pl_eq e' (by omega)]
            exact ⟨Mo_all MO, rfl, OutO.rf⟩
        rw [if_neg c2, if_neg c2]
        by_cases c3 : v2 = 3
        · have e : enB SC w = false := by rcases hv with z | z; exact z; exact absurd c3 z.2.2.2
          rw [if_pos c3, if_pos c3, e, if_neg (by decide), show (216 : Int32) + nI w = nI 216 + nI w from rfl, Z_ix (by omega), Z_cl (by omega), z_a (h3.2.2.2.1.2.2.2.2.1 w (by omega))]
          exact ⟨Mo_all MO, rfl, OutO.rf⟩
        rw [if_neg c3, if_neg c3]
        by_cases c4 : v2 = 4
        · rw [if_pos c4, if_pos c4, s_quiet h3 hw]
          exact ⟨Mo_all MO, rfl, OutO.rf⟩
        rw [if_neg c4, if_neg c4]
        by_cases c5 : v2 = 5
        · rw [if_pos c5, if_pos c5, show (232 : Int32) + nI w = nI 232 + nI w from rfl, Z_ix (by omega), Z_cl (by omega), z_a (h3.2.2.2.1.2.2.2.2.2.2.1 w (by omega))]
          exact ⟨Mo_all MO, rfl, OutO.rf⟩
        rw [if_neg c5, if_neg c5]
        by_cases c12 : v2 = 12
        · subst c12
          rw [if_neg (by decide), if_neg (by decide), if_neg (by decide), if_neg (by decide), if_neg (by decide), if_neg (by decide), if_pos rfl, if_pos rfl, s_locks h3]
          exact ⟨Mo_all MO, rfl, OutO.rf⟩
        rw [if_neg c12, if_neg c12]
        by_cases c13 : v2 = 13
        · subst c13
          rw [if_neg (by decide), if_neg (by decide), if_neg (by decide), if_neg (by decide), if_neg (by decide), if_neg (by decide), if_pos rfl, if_pos rfl, show (7 : Int32) + nI w = nI 7 + nI w from rfl, Z_ix (by omega), Z_cl (by omega), z_a (h3.2.2.1.2.2.1 w (by omega))]
          exact ⟨Mo_all MO, rfl, OutO.rf⟩
        rw [if_neg c13, if_neg c13]
        by_cases c6 : v2 = 6
        · rw [if_pos c6, if_pos c6, s_held h3 hw, Option.bind_some, flag_eq]
          exact ⟨Mo_all MO, rfl, OutO.rf⟩
        rw [if_neg c6, if_neg c6]
        by_cases c7 : v2 = 7
        · rw [if_pos c7, if_pos c7, m_has _ (show w < 32 by omega), Option.bind_some, flag_eq]
          exact ⟨Mo_all MO, rfl, OutO.rf⟩
        rw [if_neg c7, if_neg c7]
        by_cases c8 : v2 = 8
        · rw [if_pos c8, if_pos c8, show FX10_isSoft MO (nI w) (hdS PL W ln SC) = _ from s_soft h3 hw, Option.bind_some, flag_eq]
          exact ⟨Mo_all MO, rfl, OutO.rf⟩
        rw [if_neg c8, if_neg c8]
        by_cases c9 : v2 = 9
        · rw [if_pos c9, if_pos c9, s_slow h3 hw, Option.bind_some, flag_eq]
          exact ⟨Mo_all MO, rfl, OutO.rf⟩
        rw [if_neg c9, if_neg c9]
        by_cases c10 : v2 = 10
        · obtain ⟨all', k1, k2, k3⟩ := s_block h3 (by omega) hw
          rw [if_pos c10, if_pos c10, show FX10_blocker MO (nI w) (hdS PL W ln SC) = _ from k1]
          exact ⟨all', rfl, k2⟩
        rw [if_neg c10, if_neg c10]
        by_cases c11 : v2 = 11
        · rw [if_pos c11, if_pos c11, show FX10_neighbour MO (nI w) (hdS PL W ln SC) = _ from s_nb h3 hw]
          exact ⟨Mo_all MO, rfl, OutO.rf⟩
        rw [if_neg c11, if_neg c11]
        exact ⟨Mo_all MO, rfl, OutO.rf⟩
      unfold FX10_worker
      rw [ew, Option.bind_some, if_neg bI_t, s_ended h3 hw, isIn_eq, show FX10_hard MO = some (hdS PL W ln SC) from s_hard h3]
      simp only [Option.bind_some, nm]
      show ∃ all', (if bI (enB SC w) = 0 then _ else _) = _ ∧ _
      cases e : enB SC w
      · rw [if_pos bI_f]
        exact body (Or.inl e)
      · rw [if_neg bI_t]
        by_cases cv : ¬ v2 < 0 ∧ ¬ 3 < v2
        · rw [decide_eq_true cv, if_neg bI_t]
          obtain ⟨j, hj, rfl⟩ := nI_of cv.1
          have j3 : j ≤ 3 := Nat.le_of_not_lt (fun z => cv.2 (nI_lt (a := 3) z hj))
          have j4 : j = 0 ∨ j = 1 ∨ j = 2 ∨ j = 3 := by omega
          refine ⟨Mo_all MO, ?_, OutO.rf⟩
          have ev : wkV PL W ln SC w (nI j) = -1 := by
            unfold wkV
            rcases j4 with rfl | rfl | rfl | rfl
            · rw [if_pos (by decide)]
              exact of_decide_eq_true e
            · rw [if_neg (by decide), if_pos (by decide), e, if_pos rfl]
            · rw [if_neg (by decide), if_neg (by decide), if_pos (by decide), e, if_pos rfl]
            · rw [if_neg (by decide), if_neg (by decide), if_neg (by decide), if_pos (by decide), e, if_pos rfl]
          rw [ev]
        · rw [decide_eq_false cv, if_pos bI_f]
          exact body (Or.inr ⟨fun z => cv (by rw [z]; decide), fun z => cv (by rw [z]; decide), fun z => cv (by rw [z]; decide), fun z => cv (by rw [z]; decide)⟩)
    obtain ⟨TR', ST', VT', VW', a1, a2⟩ := ca
    obtain ⟨all', b1, b2⟩ := cb
    exact ⟨_, _, a1, b1, rfl, h.scr RD VW' TR' VT' x1 a2 x3 KeepM.al (fun j hj => b2 j (by omega))⟩
  · have ea : FX9_worker WD PL SC TR ST VT VW v1 v2 = some (-1, TR, ST, VT, VW) := by
      unfold FX9_worker
      rw [c_isW_f hP c, Option.bind_some, if_pos bI_f]
    have eb : FX10_worker MO v1 v2 = some (-1, MO) := by
      unfold FX10_worker
      rw [ew, Option.bind_some, if_pos bI_f]
    exact ⟨_, _, ea, eb, rfl, h⟩
theorem b_freed : B_freed Rel := by
  rintro ⟨WD, PL, SC, SK, TP, HI, HS, HK, RD, PD, VW, TR, ST, VT, SF, IM⟩ MO v1 h
  have h' := h
  obtain ⟨W, ln, h1, h2, h3, -, -, -, -, ⟨x1, x2, x3⟩, -⟩ := h'
  have hP : PlanOK PL W ln := h3.1
  have hO : SceneOK W ln SC := h3.2.1
  have hN : NormS SC := h3.2.2.2.1.2.2.2.2.2.2.2.2.2.2.2
  have x2' : NormS ST := x2
  have h8 := hP.2.1
  show ∃ q g, FX9_freed WD PL SC TR ST VT VW v1 = some q ∧ FX10_freed MO v1 = some g ∧ q.1 = g.1 ∧ Rel (WD, PL, SC, SK, TP, HI, HS, HK, RD, PD, q.2.2.2.2, q.2.1, q.2.2.1, q.2.2.2.1, SF, IM) g.2
  obtain ⟨VW', l1, l2⟩ := c_look VW hP h1 hO
  have hl : ∀ VW'', Rel (WD, PL, SC, SK, TP, HI, HS, HK, RD, PD, VW'', TR, ST, VT, SF, IM) MO := fun VW'' => h.scr RD VW'' TR VT x1 x2 x3 KeepM.rf (fun _ _ => rfl)
  unfold FX9_freed FX10_freed FX9_lookNow
  rw [l1]
  simp only [Option.bind_some]
  rw [l2.2.2.1]
  rcases s_isW h3 v1 with ⟨w, hw, rfl, ew⟩ | ⟨c, ew⟩
  · rw [c_has _ (show w < 8 by omega), b_mk _ W (by omega) w (by omega), decide_eq_true hw, Bool.true_and, ew, s_held h3 hw]
    simp only [Option.bind_some]
    rw [if_neg bI_t]
    cases hh : heB PL SC w
    · rw [if_pos bI_f, if_pos bI_f]
      exact ⟨_, _, rfl, rfl, rfl, hl _⟩
    · rw [if_neg bI_t, if_neg bI_t]
      obtain ⟨TR', ST', VT', w1, w2, w3⟩ := c_weigh (TR := TR) (SCt := ST) (VWt := VT) hP h1 hO hN x2' l2
      obtain ⟨all', f1, f2, f3⟩ := s_freed h3 (by omega) hw hh
      rw [w1, s_hard h3]
      simp only [Option.bind_some]
      rw [show FX10_freedBy MO (nI w) (hdS PL W ln SC) = _ from f1, ix_nI (show w < 8 by omega) (by decide), nI_clamp (by omega), w2 w hw hh]
      exact ⟨_, _, rfl, rfl, rfl, h.scr RD VW' TR' VT' x1 w3 x3 KeepM.al (fun j hj => f2 j (by omega))⟩
  · have hf : FX9_has (mk (heB PL SC) W) v1 = some false := by
      rcases in_or (n := 8) v1 (by decide) with ⟨k, hk, rfl⟩ | c'
      · have hkW : ¬ k < W := fun z => by
          rcases c with c | c
          · exact nI_pos (by omega) c
          · exact nI_ge z (by omega) c
        rw [c_has _ hk, b_mk _ W (by omega) k (by omega), decide_eq_false hkW]
        rfl
      · refine c_has_out _ _ (fun k hk z => ?_)
        subst z
        rcases c' with c' | c'
        · exact nI_pos (by omega) c'
        · exact nI_ge hk (by decide) c'
    rw [hf, ew]
    simp only [Option.bind_some]
    rw [if_pos bI_f, if_pos bI_f]
    exact ⟨_, _, rfl, rfl, rfl, hl _⟩
