/-! ===== the first way and its ring ===== -/
def lw (P : Nat → Bool) : Nat → Nat → Nat
  | 0, k => k
  | d + 1, k => if P k = true then k else lw P d (k + 1)
theorem c_lst : ∀ a, a < 256 → FX7_leastOf (nI a) = some (if a = 0 then -1 else nI (lw (bt (nI a)) 8 0)) := by decide +kernel
theorem c_least {x : Int32} (h : Sm x) : FX7_leastOf x = some (if x = 0 then -1 else nI (lw (bt x) 8 0)) := by
  obtain ⟨a, ha, rfl⟩ := sm_nat h
  rw [c_lst a ha]
  by_cases c : a = 0
  · rw [if_pos c, if_pos (by rw [c]; rfl)]
  · rw [if_neg c, if_neg (nI_ne0 (by omega) (by omega))]
theorem lw_in {P : Nat → Bool} : ∀ d k, (∃ j, k ≤ j ∧ j < k + d ∧ P j = true) → P (lw P d k) = true ∧ k ≤ lw P d k ∧ lw P d k < k + d
  | 0, k, ⟨j, h1, h2, _⟩ => by omega
  | d + 1, k, ⟨j, h1, h2, h3⟩ => by
    unfold lw
    by_cases c : P k = true
    · rw [if_pos c]
      exact ⟨c, Nat.le_refl _, by omega⟩
    · rw [if_neg c]
      have := lw_in (P := P) d (k + 1) ⟨j, by
        by_cases e : j = k
        · subst e
          exact absurd h3 c
        · omega, by omega, h3⟩
      exact ⟨this.1, by omega, by omega⟩
theorem m_least {x : Int32} : ∀ d k, k + d ≤ 8 → (∃ j, k ≤ j ∧ j < k + d ∧ bt x j = true) → itr (FX10_goesWay_114 x 1) (nI k) = some (nI (lw (bt x) d k))
  | 0, k, _, ⟨j, h1, h2, _⟩ => by omega
  | d + 1, k, hk, ⟨j, h1, h2, h3⟩ => by
    have f0 : FX10_goesWay_114 x 1 (nI k) = if bt x k = true then some (Sum.inr (nI k)) else some (Sum.inl (nI (k + 1))) := by
      unfold FX10_goesWay_114
      rw [if_neg (show ¬ (1 : Int32) = 0 by decide), m_has _ (by omega)]
      simp only [Option.bind_some, nm]
      rw [nI_1]
      cases bt x k
      · rw [if_pos bI_f, if_neg (by decide)]
      · rw [if_neg bI_t, if_pos rfl]
    unfold lw
    by_cases c : bt x k = true
    · rw [if_pos c] at f0 ⊢
      exact itr_inr f0
    · rw [if_neg c] at f0 ⊢
      rw [itr_inl f0]
      exact m_least d (k + 1) (by omega) ⟨j, by
        by_cases e : j = k
        · subst e
          exact absurd h3 c
        · omega, by omega, h3⟩
/-- n + 1 numbers below n: two are the same -/
theorem pigeon : ∀ n (p : Nat → Nat), (∀ i, i < n + 1 → p i < n) → ∃ i j, i < j ∧ j < n + 1 ∧ p i = p j
  | 0, p, h => absurd (h 0 (by omega)) (by omega)
  | n + 1, p, h => by
    by_cases c : ∃ L, L < n + 2 ∧ p L = n
    · obtain ⟨L, hL, eL⟩ := c
      by_cases c2 : ∃ L', L' < n + 2 ∧ L' ≠ L ∧ p L' = n
      · obtain ⟨L', hL', hne, eL'⟩ := c2
        by_cases o : L < L'
        · exact ⟨L, L', o, hL', by omega⟩
        · exact ⟨L', L, by omega, hL, by omega⟩
      · have hlt : ∀ i, i < n + 2 → i ≠ L → p i < n := fun i hi hne => by
          have h1 := h i hi
          by_cases e : p i = n
          · exact absurd ⟨i, hi, hne, e⟩ c2
          · omega
        obtain ⟨i, j, h1, h2, h3⟩ := pigeon n (fun i => if i = L then p (n + 1) else p i) (fun i hi => by
          show (if i = L then p (n + 1) else p i) < n
          by_cases e : i = L
          · rw [if_pos e]
            exact hlt (n + 1) (by omega) (by omega)
          · rw [if_neg e]
            exact hlt i (by omega) e)
        have h3' : (if i = L then p (n + 1) else p i) = (if j = L then p (n + 1) else p j) := h3
        by_cases ei : i = L
        · rw [if_pos ei, if_neg (by omega)] at h3'
          exact ⟨j, n + 1, by omega, by omega, h3'.symm⟩
        · rw [if_neg ei] at h3'
          by_cases ej : j = L
          · rw [if_pos ej] at h3'
            exact ⟨i, n + 1, by omega, by omega, h3'⟩
          · rw [if_neg ej] at h3'
            exact ⟨i, j, h1, by omega, h3'⟩
    · obtain ⟨i, j, h1, h2, h3⟩ := pigeon n p (fun i hi => by
        have h1 := h i (by omega)
        by_cases e : p i = n
        · exact absurd ⟨i, by omega, e⟩ c
        · omega)
      exact ⟨i, j, h1, by omega, h3⟩
section WAY
variable {μ : Prop} {PL : PlT} {W : Nat} {ln : Nat → Nat} {SC : ScT} {MO : MoT} {β : Nat}
theorem wt_bits (hP : PlanOK PL W ln) (hS : SceneOK W ln SC) {w : Nat} (hw : w < W) {i : Nat} (hi : i < 32) (h : bt (wt PL W ln SC w) i = true) : i < W := by
  have h8 := hP.2.1
  cases hh : heB PL SC w
  · unfold wt at h
    rw [hh, if_neg (by decide), b_0] at h
    exact bft h
  · obtain ⟨k, hk, e, hc, hp⟩ := he_at hP hS hw hh
    unfold wt kdN nuN at h
    rw [hh, if_pos rfl, hp] at h
    rcases he_kinds hP hw hk hc with ⟨k1, x, hx, ex, hn⟩ | ⟨k3, x, hx, ex⟩ | ⟨k4, x, hx, ex⟩ | ⟨k6, x, hx, hne, ex⟩
    · rw [if_pos k1, ex, nI_clamp (by omega)] at h
      rcases hS.2.1 x hx with z | ⟨w', hw', z⟩
      · exact absurd z hn
      · rw [z, b_bit w' (by omega) i hi] at h
        have := of_decide_eq_true h
        omega
    · rw [k3, if_neg (by decide), if_neg (by decide), b_mk _ W (by omega) i hi] at h
      exact of_decide_eq_true ((Bool.and_eq_true _ _).mp h).1
    · rw [k4, if_neg (by decide), if_neg (by decide), b_mk _ W (by omega) i hi] at h
      exact of_decide_eq_true ((Bool.and_eq_true _ _).mp h).1
    · rw [k6, if_neg (by decide), if_pos (by decide), ex] at h
      split at h
      · rw [b_bit x (by omega) i hi] at h
        have := of_decide_eq_true h
        omega
      · rw [b_0] at h
        exact bft h
theorem sm_wt (hP : PlanOK PL W ln) (hS : SceneOK W ln SC) {w : Nat} (hw : w < W) : Sm (wt PL W ln SC w) := fun k h1 h2 => by
  have h8 := hP.2.1
  cases z : bt (wt PL W ln SC w) k
  · rfl
  · have := wt_bits hP hS hw h2 z
    omega
theorem wt_some (hP : PlanOK PL W ln) (hS : SceneOK W ln SC) {w : Nat} (hw : w < W) (h : ¬ wt PL W ln SC w = 0) : ∃ j, 0 ≤ j ∧ j < 0 + 8 ∧ bt (wt PL W ln SC w) j = true := by
  have h8 := hP.2.1
  apply Classical.byContradiction
  intro hn
  apply h
  rw [b_eq0]
  intro i hi
  cases z : bt (wt PL W ln SC w) i
  · rfl
  · exact absurd ⟨i, by omega, by have := wt_bits hP hS hw hi z; omega, z⟩ hn
theorem place_no {VW : VwT} {m : Nat} {v : Int32} (hm : m ≤ 8) (h1 : Vw_pathLength VW = nI m) (h2 : ∀ j, j < m → Vw_path VW j ≠ v) : FX7_pathPlace VW v = some (nI m) := by
  have q : itr (FX7_pathPlace_2 VW v) (0 : Int32) = some (Sum.inl ()) := by
    refine itr_chain (fun i => nI i) m (fun i hi => ?_) ?_
    · unfold FX7_pathPlace_2
      simp only [nm]
      rw [h1, if_neg (nI_ge hi (by omega)), ix_nI (by omega) (by decide), nI_clamp (by omega), if_neg (h2 i hi), nI_1]
    · unfold FX7_pathPlace_2
      rw [h1, if_pos (nI_le (Nat.le_refl _) (by omega))]
  unfold FX7_pathPlace
  rw [q, ← h1]
  rfl
theorem place_yes {VW : VwT} {m k : Nat} {v : Int32} (hm : m ≤ 8) (hk : k < m) (h1 : Vw_pathLength VW = nI m) (h2 : ∀ j, j < k → Vw_path VW j ≠ v) (h3 : Vw_path VW k = v) : FX7_pathPlace VW v = some (nI k) := by
  have q : itr (FX7_pathPlace_2 VW v) (0 : Int32) = some (Sum.inr (nI k)) := by
    refine itr_chain (fun i => nI i) k (fun i hi => ?_) ?_
    · unfold FX7_pathPlace_2
      simp only [nm]
      rw [h1, if_neg (nI_ge (by omega) (by omega)), ix_nI (by omega) (by decide), nI_clamp (by omega), if_neg (h2 i hi), nI_1]
    · unfold FX7_pathPlace_2
      rw [h1, if_neg (nI_ge hk (by omega)), ix_nI (by omega) (by decide), nI_clamp (by omega), if_pos h3]
  unfold FX7_pathPlace
  rw [q]
  rfl
theorem seek_no {m : Nat} {st : Int32 × Int32 × MoT} {MO' : MoT} (hm : m ≤ 9) (h1 : Mo_wayMany MO' = nI m) (h2 : ∀ j, j < m → Mo_way MO' j ≠ st.1) : itr (FX10_goesWay_21 st) ((0 : Int32), MO') = some MO' := by
  refine itr_chain (fun i => (nI i, MO')) m (fun i hi => ?_) ?_
  · unfold FX10_goesWay_21
    simp only [nm]
    rw [h1, if_neg (nI_ge hi (by omega)), ix_nI (by omega) (by decide), nI_clamp (by omega), if_neg (h2 i hi), nI_1]
  · unfold FX10_goesWay_21
    rw [h1, if_pos (nI_le (Nat.le_refl _) (by omega))]
theorem seek_yes {m k : Nat} {st : Int32 × Int32 × MoT} {MO' : MoT} (hm : m ≤ 9) (hk : k < m) (h1 : Mo_wayMany MO' = nI m) (h2 : ∀ j, j < m → j ≠ k → Mo_way MO' j ≠ st.1) (h3 : Mo_way MO' k = st.1) : itr (FX10_goesWay_21 st) ((0 : Int32), MO') = some (sMo_ringFrom MO' (nI k)) := by
  have := itr_chain (f := FX10_goesWay_21 st) (e := sMo_ringFrom MO' (nI k)) (fun i => (nI i, if i ≤ k then MO' else sMo_ringFrom MO' (nI k))) m (fun i hi => by
    unfold FX10_goesWay_21
    simp only [nm]
    have ew : Mo_wayMany (if i ≤ k then MO' else sMo_ringFrom MO' (nI k)) = nI m := by
      split
      · exact h1
      · exact h1
    have ep : Mo_way (if i ≤ k then MO' else sMo_ringFrom MO' (nI k)) i = Mo_way MO' i := by
      split <;> rfl
    rw [ew, if_neg (nI_ge hi (by omega)), ix_nI (by omega) (by decide), nI_clamp (by omega), ep, nI_1]
    by_cases e : i = k
    · subst e
      rw [if_pos h3, if_pos (Nat.le_refl _), if_neg (by omega)]
    · rw [if_neg (h2 i hi e)]
      by_cases l : i ≤ k
      · rw [if_pos l, if_pos (by omega)]
      · rw [if_neg l, if_neg (by omega)]) (by
    unfold FX10_goesWay_21
    rw [if_neg (show ¬ m ≤ k by omega)]
    show (if Mo_wayMany MO' ≤ nI m then _ else _) = _
    rw [h1, if_pos (nI_le (Nat.le_refl _) (by omega))])
  exact this
theorem Sim.same {MO' : MoT} (h : Sim μ PL W ln SC MO β) (e1 : Mo_all MO' = Mo_all MO) (e2 : Mo_b MO' = Mo_b MO) : Sim μ PL W ln SC MO' β := h.mv (e2.trans h.2.2.2.2.1) h.2.2.2.2.2 (fun i _ => by rw [e1])
def sqw (PL : PlT) (W : Nat) (ln : Nat → Nat) (SC : ScT) (w0 : Nat) : Nat → Nat
  | 0 => w0
  | n + 1 => lw (bt (wt PL W ln SC (sqw PL W ln SC w0 n))) 8 0
theorem sqw_s {w0 n : Nat} : sqw PL W ln SC w0 (n + 1) = lw (bt (wt PL W ln SC (sqw PL W ln SC w0 n))) 8 0 := by rw [sqw]
theorem way_c {p : Nat → Nat} {wf : Nat → Int32} {i : Nat} {VW1 : VwT} (hi : i < 8) (hpi : p i < 8) (hw : Vw_waitsFor VW1 (p i) = wf (p i)) (hsm : Sm (wf (p i))) : FX7_walk_14 (nI (p i), nI i, VW1) = (FX7_pathPlace (sVw_pathLength (sVw_path VW1 (upd (Vw_path VW1) i (nI (p i)))) (nI (i + 1))) (if wf (p i) = 0 then -1 else nI (lw (bt (wf (p i))) 8 0))).bind (fun r11 => if (nI (i + 1) - r11) ≤ 0 then some (Sum.inl ((if wf (p i) = 0 then -1 else nI (lw (bt (wf (p i))) 8 0)), nI (i + 1), sVw_ringLength (sVw_pathLength (sVw_path VW1 (upd (Vw_path VW1) i (nI (p i)))) (nI (i + 1))) (nI (i + 1) - r11))) else some (Sum.inl (-1, nI (i + 1), sVw_ringLength (sVw_pathLength (sVw_path VW1 (upd (Vw_path VW1) i (nI (p i)))) (nI (i + 1))) (nI (i + 1) - r11)))) := by
  unfold FX7_walk_14
  simp only [nm]
  rw [if_neg (show ¬ (8 : Int32) ≤ nI i from nI_ge (b := 8) hi (by decide)), if_neg (nI_m1 _ (by omega)), ix_nI hi (by decide), nI_clamp (by omega), nI_1, at_eq hpi (by decide), Option.bind_some]
  show (FX7_leastOf (Vw_waitsFor VW1 (p i))).bind _ = _
  rw [hw, c_least hsm, Option.bind_some]
theorem way_j0 {MO2 : MoT} : FX10_goesWay_j99 MO2 0 = some (Sum.inl (0, 0, MO2)) := by
  unfold FX10_goesWay_j99 FX10_goesWay_j111
  rw [if_pos rfl, itr_inr (show FX10_goesWay_114 0 0 0 = some (Sum.inr 0) from by unfold FX10_goesWay_114; exact if_pos rfl)]
  rfl
theorem way_j1 {MO2 : MoT} {x : Int32} (c : ¬ x = 0) (h : ∃ j, 0 ≤ j ∧ j < 0 + 8 ∧ bt x j = true) : FX10_goesWay_j99 MO2 x = some (Sum.inl (nI (lw (bt x) 8 0), 1, MO2)) := by
  have q := m_least (x := x) 8 0 (by omega) h
  rw [nI_0] at q
  unfold FX10_goesWay_j99 FX10_goesWay_j111
  rw [if_neg c, q, Option.bind_some]
theorem gw_step {x : Int32} {u : MoT} {n : Nat} (hu : itr (FX10_goesWay_21 (x, 1, u)) ((0 : Int32), u) = some u) (hrf : Mo_ringFrom u = -1) (hm : Mo_wayMany u = nI n) (hn : n < 9) : FX10_goesWay_14 (x, 1, u) = (FX10_isEnded (sMo_wayMany (sMo_way u (upd (Mo_way u) n x)) (nI (n + 1))) x).bind (fun r16 => if bI r16 = 0 then (FX10_waitsFor (sMo_wayMany (sMo_way u (upd (Mo_way u) n x)) (nI (n + 1))) x).bind (fun r26 => FX10_goesWay_j99 (sMo_wayMany (sMo_way u (upd (Mo_way u) n x)) (nI (n + 1))) r26) else FX10_goesWay_j99 (sMo_wayMany (sMo_way u (upd (Mo_way u) n x)) (nI (n + 1))) 0) := by
  obtain ⟨a0, a1, a2, a3, a4, a5, a6, a7, a8, a9, a10, a11, a12, a13, a14, a15, a16, a17, a18, a19, a20, a21⟩ := u
  have hm' : a9 = nI n := hm
  subst hm'
  unfold FX10_goesWay_14
  refine (if_neg (show ¬ (1 : Int32) = 0 by decide)).trans ?_
  refine bd_of hu ?_
  refine (if_pos hrf).trans ?_
  refine (ix_nI hn (by decide) _).trans ?_
  dsimp only [nm, sMo_way, sMo_wayMany, Mo_way, Mo_wayMany]
  rw [nI_clamp (by omega), nI_1]
theorem way_m (h : Sim μ PL W ln SC MO β) {p : Nat → Nat} {i : Nat} {MO1 : MoT} (hi : i < 9) (hpi : p i < W) (r8 : Mo_all MO1 = Mo_all MO) (r9 : Mo_b MO1 = Mo_b MO) (r3 : Mo_wayMany MO1 = nI i) (r4 : ∀ j, j < i → Mo_way MO1 j ≠ nI (p i)) (hrf : Mo_ringFrom MO1 = -1) : FX10_goesWay_14 (nI (p i), 1, MO1) = if wt PL W ln SC (p i) = 0 then some (Sum.inl (0, 0, sMo_wayMany (sMo_way MO1 (upd (Mo_way MO1) i (nI (p i)))) (nI (i + 1)))) else some (Sum.inl (nI (lw (bt (wt PL W ln SC (p i))) 8 0), 1, sMo_wayMany (sMo_way MO1 (upd (Mo_way MO1) i (nI (p i)))) (nI (i + 1)))) := by
  have hs2 : Sim μ PL W ln SC (sMo_wayMany (sMo_way MO1 (upd (Mo_way MO1) i (nI (p i)))) (nI (i + 1))) β := h.same r8 r9
  rw [gw_step (x := nI (p i)) (u := MO1) (seek_no (m := i) (st := (nI (p i), 1, MO1)) (by omega) r3 r4) hrf r3 hi]
  generalize sMo_wayMany (sMo_way MO1 (upd (Mo_way MO1) i (nI (p i)))) (nI (i + 1)) = MO2 at hs2 ⊢
  rw [s_ended hs2 hpi, Option.bind_some, s_waits hs2 hpi, Option.bind_some]
  show (if bI (enB SC (p i)) = 0 then _ else _) = _
  cases e : enB SC (p i)
  · rw [if_pos bI_f]
    by_cases c : wt PL W ln SC (p i) = 0
    · rw [if_pos c, c, way_j0]
    · rw [if_neg c, way_j1 c (wt_some h.1 h.2.1 hpi c)]
  · have hz : wt PL W ln SC (p i) = 0 := by
      unfold wt
      rw [show heB PL SC (p i) = false from by unfold heB; rw [e]; rfl, if_neg (by decide)]
    rw [if_neg bI_t, way_j0, if_pos hz]
/-- how far both have come: m stand on the way -/
def WayR (p : Nat → Nat) (W m : Nat) (wf : Nat → Int32) (VW : VwT) (MO MO' : MoT) : Prop := Vw_pathLength VW = nI m ∧ (∀ j, j < m → Vw_path VW j = nI (p j)) ∧ Mo_wayMany MO' = nI m ∧ (∀ j, j < m → Mo_way MO' j = nI (p j)) ∧ (∀ j, j < m → p j < W) ∧ (∀ a b, a < b → b < m → p a ≠ p b) ∧ (∀ w, w < W → Vw_waitsFor VW w = wf w) ∧ Mo_all MO' = Mo_all MO ∧ KeepM MO MO'
def wayA (p : Nat → Nat) (W : Nat) (wf : Nat → Int32) (MO : MoT) (i : Nat) (s : Int32 × Int32 × VwT) (s' : Int32 × Int32 × MoT) : Prop := ∃ VW MO', s = (nI (p i), nI i, VW) ∧ s' = (nI (p i), 1, MO') ∧ WayR p W i wf VW MO MO' ∧ Mo_ringFrom MO' = -1 ∧ Vw_ringLength VW = 0 ∧ p i < W ∧ ∀ j, j < i → p j ≠ p i
def wayB (p : Nat → Nat) (W : Nat) (wf : Nat → Int32) (MO : MoT) (i : Nat) (s : Int32 × Int32 × VwT) (s' : Int32 × Int32 × MoT) : Prop := ∃ VW MO' x, s = (-1, nI i, VW) ∧ s' = (x, 0, MO') ∧ WayR p W i wf VW MO MO' ∧ Mo_ringFrom MO' = -1 ∧ Vw_ringLength VW = 0
def wayC (p : Nat → Nat) (W : Nat) (wf : Nat → Int32) (MO : MoT) (i : Nat) (s : Int32 × Int32 × VwT) (s' : Int32 × Int32 × MoT) : Prop := ∃ VW MO' k, s = (-1, nI i, VW) ∧ s' = (nI (p k), 1, MO') ∧ WayR p W i wf VW MO MO' ∧ Mo_ringFrom MO' = -1 ∧ k < i ∧ Vw_ringLength VW = nI (i - k)
def WayQ (p : Nat → Nat) (W : Nat) (wf : Nat → Int32) (MO : MoT) (VW : VwT) (e : MoT ⊕ MoT) : Prop := ∃ m MO', (e = Sum.inl MO' ∨ e = Sum.inr MO') ∧ m ≤ 8 ∧ WayR p W m wf VW MO MO' ∧ ((Mo_ringFrom MO' = -1 ∧ Vw_ringLength VW = 0) ∨ ∃ k, k < m ∧ Mo_ringFrom MO' = nI k ∧ Vw_ringLength VW = nI (m - k))
theorem way_lt {p : Nat → Nat} {i : Nat} (hW : W ≤ 8) (h1 : ∀ j, j < i → p j < W) (h2 : ∀ a b, a < b → b < i → p a ≠ p b) : i ≤ W := by
  apply Classical.byContradiction
  intro hn
  obtain ⟨a, b, c1, c2, c3⟩ := pigeon W p (fun j hj => h1 j (by omega))
  exact h2 a b c1 (by omega) c3
theorem way_sim (h : Sim μ PL W ln SC MO β) {VW : VwT} (hV : ViewOK PL W ln SC VW) {w0 : Nat} (hw0 : w0 < W) : ∃ VW' MO', FX7_walk VW (nI w0) = some VW' ∧ FX10_goesWay MO (nI w0) = some MO' ∧ ∃ m, m ≤ 8 ∧ WayR (sqw PL W ln SC w0) W m (wt PL W ln SC) VW' MO MO' ∧ ((Mo_ringFrom MO' = -1 ∧ Vw_ringLength VW' = 0) ∨ ∃ k, k < m ∧ Mo_ringFrom MO' = nI k ∧ Vw_ringLength VW' = nI (m - k)) := by
  have h8 := h.W8
  have hP := h.1
  have hS := h.2.1
  generalize hp : sqw PL W ln SC w0 = p
  generalize hwf : wt PL W ln SC = wf
  obtain ⟨e, e', q1, q2, m, MO', q3, q4, q5, q6⟩ := itr_sim (f := FX7_walk_14) (g := FX10_goesWay_14) (Q := WayQ p W wf MO) (fun i s s' => wayA p W wf MO i s s' ∨ wayB p W wf MO i s s' ∨ wayC p W wf MO i s s') 8 (by
    intro i s s' hi hr
    rcases hr with ⟨VW1, MO1, rfl, rfl, ⟨r1, r2, r3, r4, r5, r6, r7, r8, r9⟩, hrf, hrl, hpi, hpn⟩ | ⟨VW1, MO1, x, rfl, rfl, hR, hrf, hrl⟩ | ⟨VW1, MO1, k, rfl, rfl, hR, hrf, hk, hrl⟩
    · have hiW : i + 1 ≤ W := way_lt (p := p) h8 (fun j hj => by
        by_cases e : j = i
        · rw [e]; exact hpi
        · exact r5 j (by omega)) (fun a b hab hb => by
        by_cases e : b = i
        · rw [e]; exact hpn a (by omega)
        · exact r6 a b hab (by omega))
      left
      refine ⟨by omega, ?_⟩
      have hs1 : Sim μ PL W ln SC MO1 β := h.same r8 r9.2.2.2.2.2.2
      -- the class
      have hsm : Sm (wf (p i)) := by rw [← hwf]; exact sm_wt hP hS hpi
      have hnx : ¬ wf (p i) = 0 → p (i + 1) = lw (bt (wf (p i))) 8 0 ∧ p (i + 1) < W := fun hne => by
        have e1 : p (i + 1) = lw (bt (wf (p i))) 8 0 := by rw [← hp, ← hwf, sqw_s]
        rw [← hwf] at hne
        have h2 := lw_in 8 0 (wt_some hP hS hpi hne)
        rw [hwf] at h2
        rw [← e1] at h2
        refine ⟨e1, ?_⟩
        have h3 := h2.1
        rw [← hwf] at h3
        exact wt_bits hP hS hpi (by omega) h3
      have w1 : ∀ f : Nat → Int32, f = upd (Vw_path VW1) i (nI (p i)) → ∀ j, j < i + 1 → f j = nI (p j) := fun f hf j hj => by
        rw [hf]
        by_cases e : j = i
        · rw [e, u_eq rfl]
        · rw [u_ne e]
          exact r2 j (by omega)
      have w2 : ∀ f : Nat → Int32, f = upd (Mo_way MO1) i (nI (p i)) → ∀ j, j < i + 1 → f j = nI (p j) := fun f hf j hj => by
        rw [hf]
        by_cases e : j = i
        · rw [e, u_eq rfl]
        · rw [u_ne e]
          exact r4 j (by omega)
      have d1 : ∀ j, j < i + 1 → p j < W := fun j hj => by
        by_cases e : j = i
        · rw [e]; exact hpi
        · exact r5 j (by omega)
      have d2 : ∀ a b, a < b → b < i + 1 → p a ≠ p b := fun a b hab hb => by
        by_cases e : b = i
        · rw [e]; exact hpn a (by omega)
        · exact r6 a b hab (by omega)
      generalize hVW2 : sVw_pathLength (sVw_path VW1 (upd (Vw_path VW1) i (nI (p i)))) (nI (i + 1)) = VW2
      generalize hMO2 : sMo_wayMany (sMo_way MO1 (upd (Mo_way MO1) i (nI (p i)))) (nI (i + 1)) = MO2
      have R2 : ∀ rl, WayR p W (i + 1) wf (sVw_ringLength VW2 rl) MO MO2 := fun rl => by
        rw [← hVW2, ← hMO2]
        exact ⟨rfl, w1 _ rfl, rfl, w2 _ rfl, d1, d2, r7, r8, r9⟩
      have c1 := way_c (p := p) (wf := wf) (i := i) (VW1 := VW1) (by omega) (by omega) (r7 (p i) hpi) hsm
      rw [hVW2] at c1
      have m1 := way_m h (p := p) (i := i) (MO1 := MO1) (by omega) hpi r8 r9.2.2.2.2.2.2 r3 (fun j hj => by rw [r4 j hj]; exact fun z => hpn j hj (nI_inj (by have := r5 j hj; omega) (by omega) z)) hrf
      rw [hMO2, hwf] at m1
      have pl2 : Vw_pathLength VW2 = nI (i + 1) := by rw [← hVW2]
      have pp2 : ∀ j, j < i + 1 → Vw_path VW2 j = nI (p j) := by
        rw [← hVW2]
        exact w1 _ rfl
      have mr2 : Mo_ringFrom MO2 = -1 := by
        rw [← hMO2]
        exact hrf
      by_cases c : wf (p i) = 0
      · rw [if_pos c] at m1
        rw [if_pos c, place_no (m := i + 1) (by omega) pl2 (fun j hj => by rw [pp2 j hj]; exact nI_m1 _ (by have := d1 j hj; omega)), Option.bind_some, if_pos (by rw [pk_sub (Nat.le_refl _), Nat.sub_self]; decide), pk_sub (Nat.le_refl _), Nat.sub_self] at c1
        exact ⟨_, _, c1, m1, Or.inr (Or.inl ⟨_, _, _, rfl, rfl, R2 _, mr2, rfl⟩)⟩
      · rw [if_neg c] at m1
        obtain ⟨n1, n2⟩ := hnx c
        rw [← n1] at m1
        by_cases hin : ∃ k, k < i + 1 ∧ p k = p (i + 1)
        · obtain ⟨k, hk, ek⟩ := hin
          rw [if_neg c, ← n1, place_yes (m := i + 1) (k := k) (by omega) hk pl2 (fun j hj => by rw [pp2 j (by omega), ← ek]; exact fun z => d2 j k hj hk (nI_inj (by have := d1 j (by omega); omega) (by have := d1 k hk; omega) z)) (by rw [pp2 k hk, ek]), Option.bind_some, pk_sub (by omega), if_neg (nI_nle (by omega) (by omega))] at c1
          refine ⟨_, _, c1, m1, Or.inr (Or.inr ⟨_, _, k, rfl, ?_, R2 _, mr2, hk, rfl⟩)⟩
          rw [ek]
        · rw [if_neg c, ← n1, place_no (m := i + 1) (by omega) pl2 (fun j hj => by rw [pp2 j hj]; exact fun z => hin ⟨j, hj, nI_inj (by have := d1 j hj; omega) (by omega) z⟩), Option.bind_some, pk_sub (Nat.le_refl _), Nat.sub_self, if_pos (show nI 0 ≤ 0 by decide)] at c1
          exact ⟨_, _, c1, m1, Or.inl ⟨_, _, rfl, rfl, R2 _, mr2, rfl, n2, fun j hj z => hin ⟨j, hj, z⟩⟩⟩
    · right
      refine ⟨VW1, Sum.inl MO1, ?_, ?_, i, MO1, Or.inl rfl, hi, hR, Or.inl ⟨hrf, hrl⟩⟩
      · unfold FX7_walk_14
        by_cases c : (8 : Int32) ≤ nI i
        · rw [if_pos c]
        · rw [if_neg c, if_pos rfl]
      · unfold FX10_goesWay_14
        exact if_pos rfl
    · right
      obtain ⟨r1, r2, r3, r4, r5, r6, r7, r8, r9⟩ := hR
      refine ⟨VW1, Sum.inr (sMo_ringFrom MO1 (nI k)), ?_, ?_, i, sMo_ringFrom MO1 (nI k), Or.inr rfl, hi, ⟨r1, r2, r3, r4, r5, r6, r7, r8, r9⟩, Or.inr ⟨k, hk, rfl, hrl⟩⟩
      · unfold FX7_walk_14
        by_cases c : (8 : Int32) ≤ nI i
        · rw [if_pos c]
        · rw [if_neg c, if_pos rfl]
      · unfold FX10_goesWay_14
        rw [if_neg (show ¬ (1 : Int32) = 0 by decide), seek_yes (m := i) (k := k) (st := (nI (p k), 1, MO1)) (by omega) hk r3 (fun j hj hne => by
          rw [r4 j hj]
          intro z
          have e := nI_inj (by have := r5 j hj; omega) (by have := r5 k hk; omega) z
          by_cases o : j < k
          · exact r6 j k o hk e
          · exact r6 k j (by omega) hj e.symm) (r4 k hk), Option.bind_some, if_neg (show ¬ Mo_ringFrom (sMo_ringFrom MO1 (nI k)) = -1 from nI_m1 k (by omega))]) (s := (nI w0, (0 : Int32), sVw_ringLength (sVw_pathLength VW 0) 0)) (s' := (nI w0, (1 : Int32), sMo_ringFrom (sMo_wayMany MO 0) (-1))) (Or.inl ⟨sVw_ringLength (sVw_pathLength VW 0) 0, sMo_ringFrom (sMo_wayMany MO 0) (-1), by rw [← hp]; rfl, by rw [← hp]; rfl, ⟨rfl, fun j hj => by omega, rfl, fun j hj => by omega, fun j hj => by omega, fun a b _ hb => by omega, by rw [← hwf]; exact hV.2.2.2.2.2.2.2.2, rfl, ⟨rfl, rfl, rfl, rfl, rfl, rfl, rfl⟩⟩, rfl, rfl, by rw [← hp]; exact hw0, fun j hj => by omega⟩)
  refine ⟨e, MO', ?_, ?_, m, q4, q5, q6⟩
  · unfold FX7_walk
    simp only [nm]
    rw [q1]
    rfl
  · unfold FX10_goesWay
    simp only [nm]
    rw [q2]
    rcases q3 with rfl | rfl <;> rfl
end WAY

theorem has_out {PL : PlT} {W : Nat} {SC : ScT} {v1 : Int32} (h8 : W ≤ 8) (c : v1 < 0 ∨ nI W ≤ v1) : FX9_has (mk (heB PL SC) W) v1 = some false := by
  rcases in_or (n := 8) v1 (by decide) with ⟨k, hk, rfl⟩ | c'
  · have hkW : ¬ k < W := fun z => by
      rcases c with c | c
      · exact nI_pos (by omega) c
      · exact nI_ge z (by omega) c
    rw [c_has _ hk, b_mk _ W (by omega) k (by omega), decide_eq_false hkW]
    rfl
  · refine c_has_out _ _ (fun k hk z => ?_)
    subst z
    rcases c' with c' | c'
    · exact nI_pos (by omega) c'
    · exact nI_ge hk (by decide) c'
theorem b_way : B_way Rel := by
  rintro ⟨WD, PL, SC, SK, TP, HI, HS, HK, RD, PD, VW, TR, ST, VT, SF, IM⟩ MO v1 v2 h
  have h' := h
  obtain ⟨W, ln, h1, h2, h3, -, -, -, -, ⟨x1, x2, x3⟩, -⟩ := h'
  have hP : PlanOK PL W ln := h3.1
  have hO : SceneOK W ln SC := h3.2.1
  have h8 := hP.2.1
  show ∃ q g, FX9_way WD PL SC VW v1 v2 = some q ∧ FX10_way MO v1 v2 = some g ∧ q.1 = g.1 ∧ Rel (WD, PL, SC, SK, TP, HI, HS, HK, RD, PD, q.2, TR, ST, VT, SF, IM) g.2
  obtain ⟨VW', l1, l2⟩ := c_look VW hP h1 hO
  have hl : ∀ VW'', Rel (WD, PL, SC, SK, TP, HI, HS, HK, RD, PD, VW'', TR, ST, VT, SF, IM) MO := fun VW'' => h.scr RD VW'' TR VT x1 x2 x3 KeepM.rf (fun _ _ => rfl)
  unfold FX9_way FX10_way FX9_lookNow
  rw [l1]
  simp only [Option.bind_some]
  rw [l2.2.2.1]
  rcases s_isW h3 v1 with ⟨w, hw, rfl, ew⟩ | ⟨c, ew⟩
  · rw [c_has _ (show w < 8 by omega), b_mk _ W (by omega) w (by omega), decide_eq_true hw, Bool.true_and, ew, s_held h3 hw]
    simp only [Option.bind_some]
    rw [if_neg bI_t]
    cases hh : heB PL SC w
    · rw [if_pos bI_f, if_pos bI_f]
      exact ⟨_, _, rfl, rfl, rfl, hl _⟩
    · rw [if_neg bI_t, if_neg bI_t]
      obtain ⟨VW2, MO2, y1, y2, m, hm, ⟨r1, r2, r3, r4, r5, r6, r7, r8, r9⟩, -⟩ := way_sim h3 l2 hw
      have hfin : Rel (WD, PL, SC, SK, TP, HI, HS, HK, RD, PD, VW2, TR, ST, VT, SF, IM) MO2 := h.scr RD VW2 TR VT x1 x2 x3 r9 (fun j _ => by rw [r8])
      rw [y1, y2]
      simp only [Option.bind_some]
      rw [r1, r3]
      by_cases c1 : v2 = -1
      · rw [if_pos c1, if_pos c1]
        exact ⟨_, _, rfl, rfl, rfl, hfin⟩
      · rw [if_neg c1, if_neg c1]
        rcases in_or (n := m) v2 (by omega) with ⟨j, hj, rfl⟩ | c
        · rw [if_neg (nI_ge hj (by omega)), at_eq (show j < 8 by omega) (by decide), isIn_0t (by omega) hj, Option.bind_some, Option.bind_some, if_neg bI_t, ix_nI (by omega) (by decide), nI_clamp (by omega), r2 j hj, r4 j hj]
          exact ⟨_, _, rfl, rfl, rfl, hfin⟩
        · rw [isIn_0f (by omega) c, Option.bind_some, if_pos bI_f]
          by_cases c0 : nI m ≤ v2
          · rw [if_pos c0]
            exact ⟨_, _, rfl, rfl, rfl, hfin⟩
          · rw [if_neg c0, at_out (Or.inl (by rcases c with z | z; exact z; exact absurd z c0))]
            exact ⟨_, _, rfl, rfl, rfl, hfin⟩
  · rw [has_out h8 c, ew]
    simp only [Option.bind_some]
    rw [if_pos bI_f, if_pos bI_f]
    exact ⟨_, _, rfl, rfl, rfl, hl _⟩
theorem b_ring : B_ring Rel := by
  rintro ⟨WD, PL, SC, SK, TP, HI, HS, HK, RD, PD, VW, TR, ST, VT, SF, IM⟩ MO v1 h
  have h' := h
  obtain ⟨W, ln, h1, h2, h3, -, -, -, -, ⟨x1, x2, x3⟩, -⟩ := h'
  have hP : PlanOK PL W ln := h3.1
  have hO : SceneOK W ln SC := h3.2.1
  have h8 := hP.2.1
  show ∃ q g, FX9_ring WD PL SC VW v1 = some q ∧ FX10_ring MO v1 = some g ∧ q.1 = g.1 ∧ Rel (WD, PL, SC, SK, TP, HI, HS, HK, RD, PD, q.2, TR, ST, VT, SF, IM) g.2
  obtain ⟨VW', l1, l2⟩ := c_look VW hP h1 hO
  have hl : ∀ VW'', Rel (WD, PL, SC, SK, TP, HI, HS, HK, RD, PD, VW'', TR, ST, VT, SF, IM) MO := fun VW'' => h.scr RD VW'' TR VT x1 x2 x3 KeepM.rf (fun _ _ => rfl)
  unfold FX9_ring FX10_ring FX9_lookNow
  rw [l1]
  simp only [Option.bind_some]
  rw [l2.2.2.1]
  rcases s_isW h3 v1 with ⟨w, hw, rfl, ew⟩ | ⟨c, ew⟩
  · rw [c_has _ (show w < 8 by omega), b_mk _ W (by omega) w (by omega), decide_eq_true hw, Bool.true_and, ew, s_held h3 hw]
    simp only [Option.bind_some]
    rw [if_neg bI_t]
    cases hh : heB PL SC w
    · rw [if_pos bI_f, if_pos bI_f]
      exact ⟨_, _, rfl, rfl, rfl, hl _⟩
    · rw [if_neg bI_t, if_neg bI_t]
      obtain ⟨VW2, MO2, y1, y2, m, hm, ⟨r1, r2, r3, r4, r5, r6, r7, r8, r9⟩, hq⟩ := way_sim h3 l2 hw
      have hfin : Rel (WD, PL, SC, SK, TP, HI, HS, HK, RD, PD, VW2, TR, ST, VT, SF, IM) MO2 := h.scr RD VW2 TR VT x1 x2 x3 r9 (fun j _ => by rw [r8])
      rw [y1, y2]
      simp only [Option.bind_some]
      rcases hq with ⟨z1, z2⟩ | ⟨k, hk, z1, z2⟩
      · rw [if_pos z1, z2]
        exact ⟨_, _, rfl, rfl, rfl, hfin⟩
      · rw [if_neg (by rw [z1]; exact nI_m1 k (by omega)), z1, z2, r3, pk_sub (by omega)]
        exact ⟨_, _, rfl, rfl, rfl, hfin⟩
  · rw [has_out h8 c, ew]
    simp only [Option.bind_some]
    rw [if_pos bI_f, if_pos bI_f]
    exact ⟨_, _, rfl, rfl, rfl, hl _⟩
