/-! ===== for whom a worker waits ===== -/
def wsB (PL : PlT) (ln : Nat → Nat) (SC : ScT) (w : Nat) (κ n : Int32) (o : Nat) : Bool := !decide (o = w) && cnB PL ln SC o κ n
def wt (PL : PlT) (W : Nat) (ln : Nat → Nat) (SC : ScT) (w : Nat) : Int32 :=
  if heB PL SC w = true then
    if kdN PL SC w = nI 1 then (1 : Int32) <<< (Sc_holders SC (nuN PL SC w).toNatClampNeg &&& 31)
    else if kdN PL SC w = nI 6 then (if cnB PL ln SC (nuN PL SC w).toNatClampNeg (nI 5) (nI w) = true then (1 : Int32) <<< (nuN PL SC w &&& 31) else 0)
    else mk (wsB PL ln SC w (if kdN PL SC w = nI 3 then nI 4 else nI 3) (nuN PL SC w)) W
  else 0
theorem b_andbit (m : Int32) {i : Nat} (hi : i < 32) : m &&& ((1 : Int32) <<< (nI i &&& 31)) = 0 ↔ bt m i = false := by
  rw [b_eq0]
  constructor
  · intro h
    have := h i hi
    rw [b_and, b_bit i hi i hi, decide_eq_true rfl, Bool.and_true] at this
    exact this
  · intro h j hj
    rw [b_and, b_bit i hi j hj]
    by_cases e : i = j
    · subst e
      rw [h]
      rfl
    · rw [decide_eq_false e, Bool.and_false]
theorem want4 {x : Nat} (h : x < 4) : Want (nI 4) (nI x) x := Or.inl ⟨rfl, x, h, rfl, rfl⟩
theorem want3 {x : Nat} (h : x < 4) : Want (nI 3) (nI x) (4 + x) := Or.inr (Or.inl ⟨rfl, x, h, rfl, rfl⟩)
theorem want5 {x : Nat} (h : x < 8) : Want (nI 5) (nI x) (8 + x) := Or.inr (Or.inr ⟨rfl, x, h, rfl, rfl⟩)
section WAITS
variable {μ : Prop} {PL : PlT} {W : Nat} {ln : Nat → Nat} {SC : ScT} {MO : MoT} {β : Nat}
theorem s_held (h : Sim μ PL W ln SC MO β) {w : Nat} (hw : w < W) : FX10_isHeldUp MO (nI w) = some (heB PL SC w) := by
  unfold FX10_isHeldUp heB
  rw [s_ended h hw]
  simp only [Option.bind_some]
  rcases h.alt hw with e | ⟨k, hk, e⟩
  · rw [decide_eq_true e, if_neg bI_t, en_t e]
    rfl
  · have h12 := (h.1.2.2.1 w hw).2.2
    have ne : ¬ Sc_place SC w = -1 := by rw [e]; exact nI_m1 k (by omega)
    rw [decide_eq_false ne, if_pos bI_f, en_f e (by omega), s_canBe h hw hk e, pl_eq e (by omega)]
    simp only [Option.bind_some]
    cases canB PL SC w k
    · rw [if_pos bI_f]
      rfl
    · rw [if_neg bI_t]
      rfl
/-- of one that is held up -/
theorem he_at (hP : PlanOK PL W ln) (hS : SceneOK W ln SC) {w : Nat} (hw : w < W) (hh : heB PL SC w = true) : ∃ k, k < ln w ∧ Sc_place SC w = nI k ∧ canB PL SC w k = false ∧ pl SC w = k := by
  have h12 := (hP.2.2.1 w hw).2.2
  unfold heB at hh
  rcases hS.1 w hw with e | ⟨k, hk, e⟩
  · rw [en_t e] at hh
    exact bft hh
  · rw [en_f e (by omega), pl_eq e (by omega)] at hh
    refine ⟨k, hk, e, ?_, pl_eq e (by omega)⟩
    cases z : canB PL SC w k
    · rfl
    · rw [z] at hh
      exact bft hh
/-- which kinds of step one that is held up may have, and with which numbers -/
theorem he_kinds (hP : PlanOK PL W ln) {w k : Nat} (hw : w < W) (hk : k < ln w) (hc : canB PL SC w k = false) :
    (Pl_kinds PL (12 * w + k) = nI 1 ∧ (∃ x, x < 6 ∧ Pl_numbers PL (12 * w + k) = nI x ∧ Sc_holders SC x ≠ -1)) ∨ (Pl_kinds PL (12 * w + k) = nI 3 ∧ ∃ x, x < 4 ∧ Pl_numbers PL (12 * w + k) = nI x) ∨ (Pl_kinds PL (12 * w + k) = nI 4 ∧ ∃ x, x < 4 ∧ Pl_numbers PL (12 * w + k) = nI x) ∨ (Pl_kinds PL (12 * w + k) = nI 6 ∧ ∃ x, x < W ∧ x ≠ w ∧ Pl_numbers PL (12 * w + k) = nI x) := by
  by_cases k1 : Pl_kinds PL (12 * w + k) = nI 1
  · obtain ⟨x, hx, ex⟩ := num_lock hP hw hk (Or.inl k1)
    refine Or.inl ⟨k1, x, hx, ex, fun z => ?_⟩
    unfold canB at hc
    rw [if_pos k1, ex, nI_clamp (by omega), z] at hc
    exact absurd hc (by decide)
  · by_cases k3 : Pl_kinds PL (12 * w + k) = nI 3
    · exact Or.inr (Or.inl ⟨k3, num_pipe hP hw hk (Or.inl k3)⟩)
    · by_cases k4 : Pl_kinds PL (12 * w + k) = nI 4
      · exact Or.inr (Or.inr (Or.inl ⟨k4, num_pipe hP hw hk (Or.inr k4)⟩))
      · by_cases k6 : Pl_kinds PL (12 * w + k) = nI 6
        · exact Or.inr (Or.inr (Or.inr ⟨k6, num_mate hP hw hk (Or.inr k6)⟩))
        · exfalso
          unfold canB at hc
          rw [if_neg k1, if_neg k3, if_neg k4, if_neg k6] at hc
          exact absurd hc (by decide)
theorem wf_scan (h : Sim μ PL W ln SC MO β) {w x : Nat} (hw : w < W) (hx : x < 4) {κ : Int32} (hκ : κ = nI 3 ∨ κ = nI 4) : itr (FX10_waitsFor_75 MO (nI w) κ (nI x)) ((0 : Int32), (0 : Int32)) = some (mk (wsB PL ln SC w (if κ = nI 3 then nI 4 else nI 3) (nI x)) W) := by
  have h8 := h.W8
  refine itr_chain (fun i => (mk (wsB PL ln SC w (if κ = nI 3 then nI 4 else nI 3) (nI x)) i, nI i)) W (fun i hi => ?_) ?_
  · unfold FX10_waitsFor_75
    rw [s_workers h]
    simp only [Option.bind_some, nm]
    rw [if_neg (nI_ge hi (by omega)), nI_1]
    by_cases e : i = w
    · subst e
      rw [if_pos rfl, ← mk_f (P := wsB PL ln SC i (if κ = nI 3 then nI 4 else nI 3) (nI x)) (n := i) (by unfold wsB; rw [decide_eq_true rfl]; rfl)]
    · rw [if_neg (fun z => e (nI_inj (by omega) (by omega) z))]
      have hb : ∀ κ', wsB PL ln SC w κ' (nI x) i = cnB PL ln SC i κ' (nI x) := fun κ' => by unfold wsB; rw [decide_eq_false e]; rfl
      rcases hκ with rfl | rfl
      · rw [if_pos (show nI 3 = (3 : Int32) from rfl), if_pos (show nI 3 = nI 3 from rfl), s_can h (want4 hx) (κ := 4) hi]
        simp only [Option.bind_some]
        cases z : cnB PL ln SC i 4 (nI x)
        · rw [if_pos bI_f, ← mk_f (P := wsB PL ln SC w (nI 4) (nI x)) (n := i) ((hb _).trans z)]
        · rw [if_neg bI_t, mk_t (P := wsB PL ln SC w (nI 4) (nI x)) (n := i) ((hb _).trans z)]
      · rw [if_neg (show ¬ nI 4 = (3 : Int32) by decide), if_neg (show ¬ nI 4 = nI 3 by decide), s_can h (want3 hx) (κ := 3) hi]
        simp only [Option.bind_some]
        cases z : cnB PL ln SC i 3 (nI x)
        · rw [if_pos bI_f, ← mk_f (P := wsB PL ln SC w (nI 3) (nI x)) (n := i) ((hb _).trans z)]
        · rw [if_neg bI_t, mk_t (P := wsB PL ln SC w (nI 3) (nI x)) (n := i) ((hb _).trans z)]
  · unfold FX10_waitsFor_75
    rw [s_workers h]
    simp only [Option.bind_some]
    rw [if_pos (nI_le (Nat.le_refl _) (by omega))]
theorem s_waits (h : Sim μ PL W ln SC MO β) {w : Nat} (hw : w < W) : FX10_waitsFor MO (nI w) = some (wt PL W ln SC w) := by
  have h8 := h.W8
  have hb := h.2.2.2.2.1
  have hβ := h.2.2.2.2.2
  unfold FX10_waitsFor wt
  rw [s_held h hw]
  simp only [Option.bind_some]
  cases hh : heB PL SC w
  · rw [if_pos bI_f, if_neg (by decide)]
  · rw [if_neg bI_t, if_pos rfl]
    obtain ⟨k, hk, e, hc, hp⟩ := he_at h.1 h.2.1 hw hh
    unfold kdN nuN
    rw [s_sortNow h hw hk e, s_numberNow h hw hk e, hp]
    simp only [Option.bind_some, nm]
    rcases he_kinds h.1 hw hk hc with ⟨k1, x, hx, ex, -⟩ | ⟨k3, x, hx, ex⟩ | ⟨k4, x, hx, ex⟩ | ⟨k6, x, hx, hne, ex⟩
    · rw [k1, if_pos (show nI 1 = (1 : Int32) from rfl), if_pos rfl, ex, hb, show nI β + 240 + nI x = nI β + nI 240 + nI x from rfl, M_ix (by omega), M_cl (by omega), h.2.2.2.1.2.2.2.2.2.2.2.1 x hx, nI_clamp (by omega)]
    · rw [k3, if_neg (show ¬ nI 3 = (1 : Int32) by decide), if_neg (show ¬ nI 3 = nI 1 by decide), if_neg (show ¬ nI 3 = (6 : Int32) by decide), if_neg (show ¬ nI 3 = nI 6 by decide), ex, wf_scan h hw hx (Or.inl rfl)]
      rfl
    · rw [k4, if_neg (show ¬ nI 4 = (1 : Int32) by decide), if_neg (show ¬ nI 4 = nI 1 by decide), if_neg (show ¬ nI 4 = (6 : Int32) by decide), if_neg (show ¬ nI 4 = nI 6 by decide), ex, wf_scan h hw hx (Or.inr rfl)]
      rfl
    · rw [k6, if_neg (show ¬ nI 6 = (1 : Int32) by decide), if_neg (show ¬ nI 6 = nI 1 by decide), if_pos (show nI 6 = (6 : Int32) by decide), if_pos (show nI 6 = nI 6 from rfl), ex, s_can h (want5 (show w < 8 by omega)) (κ := 5) hx, nI_clamp (by omega)]
      simp only [Option.bind_some]
      show (if bI (cnB PL ln SC x (nI 5) (nI w)) = 0 then _ else _) = _
      cases cnB PL ln SC x (nI 5) (nI w)
      · rw [if_pos bI_f, if_neg (by decide)]
      · rw [if_neg bI_t, if_pos rfl]
/-! the class -/
/-- what the masks of a look say -/
def MaskOK (PL : PlT) (W : Nat) (ln : Nat → Nat) (SC : ScT) (VW : VwT) : Prop := Vw_workers VW = nI W ∧ ∀ w, w < W → ∀ κ n i, Want κ n i → bt (Vw_can VW w) i = cnB PL ln SC w κ n
theorem c_who {VW : VwT} (hW : W ≤ 8) (hV : MaskOK PL W ln SC VW) {w i : Nat} {κ n : Int32} (hi : Want κ n i) (hw : w < W) : FX7_whoCan VW (nI w) ((1 : Int32) <<< (nI i &&& 31)) = some (mk (wsB PL ln SC w κ n) W) := by
  have hi16 := hi.lt
  have q : itr (FX7_whoCan_5 VW (nI w) ((1 : Int32) <<< (nI i &&& 31))) ((0 : Int32), (0 : Int32)) = some (mk (wsB PL ln SC w κ n) W) := by
    refine itr_chain (fun j => (mk (wsB PL ln SC w κ n) j, nI j)) W (fun j hj => ?_) ?_
    · unfold FX7_whoCan_5
      simp only [nm]
      rw [hV.1, if_neg (nI_ge hj (by omega)), nI_1]
      by_cases e : j = w
      · subst e
        rw [if_pos rfl, ← mk_f (P := wsB PL ln SC j κ n) (n := j) (by unfold wsB; rw [decide_eq_true rfl]; rfl)]
      · have hb : wsB PL ln SC w κ n j = cnB PL ln SC j κ n := by unfold wsB; rw [decide_eq_false e]; rfl
        rw [if_neg (fun z => e (nI_inj (by omega) (by omega) z)), ix_nI (by omega) (by decide), nI_clamp (by omega)]
        have hm := hV.2 j hj κ n i hi
        cases z : cnB PL ln SC j κ n
        · rw [if_pos ((b_andbit _ (by omega)).mpr (hm.trans z)), ← mk_f (P := wsB PL ln SC w κ n) (n := j) (hb.trans z)]
        · rw [if_neg (fun y => by rw [(b_andbit _ (by omega)).mp y, z] at hm; exact absurd hm (by decide)), mk_t (P := wsB PL ln SC w κ n) (n := j) (hb.trans z)]
    · unfold FX7_whoCan_5
      rw [hV.1, if_pos (nI_le (Nat.le_refl _) (by omega))]
  unfold FX7_whoCan
  rw [q]
  rfl
theorem mk_bit {P : Nat → Bool} {x : Nat} (hx : x < W) (hW : W ≤ 8) : mk P W &&& ((1 : Int32) <<< (nI x &&& 31)) = if P x = true then (1 : Int32) <<< (nI x &&& 31) else 0 := by
  apply b_ext
  intro i hi
  rw [b_and, b_mk P W (by omega) i hi, b_bit x (by omega) i hi]
  by_cases e : x = i
  · subst e
    rw [decide_eq_true hx, decide_eq_true rfl, Bool.true_and, Bool.and_true]
    cases P x
    · rw [if_neg (by decide), b_0]
    · rw [if_pos rfl, b_bit x hi x hi, decide_eq_true rfl]
  · rw [decide_eq_false e, Bool.and_false]
    cases P x
    · rw [if_neg (by decide), b_0]
    · rw [if_pos rfl, b_bit x (by omega) i hi, decide_eq_false e]
theorem c_waits {VW : VwT} (hP : PlanOK PL W ln) (hS : SceneOK W ln SC) (hV : MaskOK PL W ln SC VW) {w : Nat} (hw : w < W) (hh : heB PL SC w = true) : FX7_waitsOf VW PL SC (nI w) = some (wt PL W ln SC w) := by
  have h8 := hP.2.1
  obtain ⟨k, hk, e, hc, hp⟩ := he_at hP hS hw hh
  unfold FX7_waitsOf wt kdN nuN
  rw [ix_nI (by omega) (by decide), nI_clamp (show w < 2 ^ 31 by omega), e, c_number hP hw hk, hp, if_pos hh]
  simp only [Option.bind_some]
  rw [ix_nI (by omega) (by decide), c_kind hP hw hk]
  simp only [Option.bind_some]
  rcases he_kinds hP hw hk hc with ⟨k1, x, hx, ex, -⟩ | ⟨k3, x, hx, ex⟩ | ⟨k4, x, hx, ex⟩ | ⟨k6, x, hx, hne, ex⟩
  · rw [k1, if_pos (show nI 1 = (1 : Int32) from rfl), if_pos rfl, ex, at_eq hx (by decide), nI_clamp (by omega)]
    rfl
  · rw [k3, if_neg (show ¬ nI 3 = (1 : Int32) by decide), if_neg (show ¬ nI 3 = nI 1 by decide), if_pos (show nI 3 = (3 : Int32) from rfl), if_neg (show ¬ nI 3 = nI 6 by decide), if_pos (show nI 3 = nI 3 from rfl), ex]
    show (FX7_whoCan VW (nI w) ((1 : Int32) <<< (nI x &&& 31))).bind _ = _
    rw [c_who h8 hV (want4 hx) hw]
    rfl
  · rw [k4, if_neg (show ¬ nI 4 = (1 : Int32) by decide), if_neg (show ¬ nI 4 = nI 1 by decide), if_neg (show ¬ nI 4 = (3 : Int32) by decide), if_pos (show nI 4 = (4 : Int32) from rfl), if_neg (show ¬ nI 4 = nI 6 by decide), if_neg (show ¬ nI 4 = nI 3 by decide), ex]
    show (FX7_whoCan VW (nI w) ((1 : Int32) <<< ((nI 4 + nI x) &&& 31))).bind _ = _
    rw [nI_add, c_who h8 hV (want3 hx) hw]
    rfl
  · rw [k6, if_neg (show ¬ nI 6 = (1 : Int32) by decide), if_neg (show ¬ nI 6 = nI 1 by decide), if_neg (show ¬ nI 6 = (3 : Int32) by decide), if_neg (show ¬ nI 6 = (4 : Int32) by decide), if_pos (show nI 6 = (6 : Int32) from rfl), if_pos (show nI 6 = nI 6 from rfl), ex, nI_clamp (show x < 2 ^ 31 by omega)]
    show (FX7_whoCan VW (nI w) ((1 : Int32) <<< ((nI 8 + nI w) &&& 31))).bind _ = _
    rw [nI_add, c_who h8 hV (want5 (show w < 8 by omega)) hw]
    simp only [Option.bind_some]
    rw [mk_bit hx h8, show wsB PL ln SC w (nI 5) (nI w) x = cnB PL ln SC x (nI 5) (nI w) from by unfold wsB; rw [decide_eq_false hne]; rfl]
end WAITS
