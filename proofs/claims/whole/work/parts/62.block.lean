/-! ===== whose letting go frees how many; the blocker ===== -/
def fdN (PL : PlT) (W : Nat) (ln : Nat → Nat) (SC : ScT) (w : Nat) : Nat := pc (bt (hdS PL W ln SC &&& (hdS PL W ln (lgS PL ln SC w) ^^^ (-1)))) 8
/-- nothing but the last stretch laid aside has changed -/
def OutO (all all' : Nat → Int32) : Prop := ∀ j, (j < 948 ∨ 1422 ≤ j) → all' j = all j
theorem OutO.rf {all : Nat → Int32} : OutO all all := fun _ _ => rfl
theorem OutO.tr {a b c : Nat → Int32} (h1 : OutO a b) (h2 : OutO b c) : OutO a c := fun j hj => (h2 j hj).trans (h1 j hj)
def bk (A : Nat → Bool) (fd : Nat → Nat) (q : Nat → Int32) : Nat → Option Nat
  | 0 => none
  | n + 1 => if A n = true then (match bk A fd q n with
    | none => some n
    | some b => if fd n = fd b then (if q n ≤ q b then some b else some n) else if fd n ≤ fd b then some b else some n) else bk A fd q n
def oI : Option Nat → Int32
  | none => -1
  | some b => nI b
theorem bk_lt {A : Nat → Bool} {fd : Nat → Nat} {q : Nat → Int32} : ∀ {n b : Nat}, bk A fd q n = some b → b < n ∧ A b = true
  | 0, b, h => by cases h
  | n + 1, b, h => by
    unfold bk at h
    by_cases a : A n = true
    · rw [if_pos a] at h
      cases z : bk A fd q n with
      | none =>
        rw [z] at h
        have := Option.some.inj h
        subst this
        exact ⟨by omega, a⟩
      | some c =>
        have ih := bk_lt z
        rw [z] at h
        have h' : (if fd n = fd c then (if q n ≤ q c then some c else some n) else if fd n ≤ fd c then some c else some n) = some b := h
        have hb : b = c ∨ b = n := by
          split at h'
          · split at h'
            · exact Or.inl (Option.some.inj h').symm
            · exact Or.inr (Option.some.inj h').symm
          · split at h'
            · exact Or.inl (Option.some.inj h').symm
            · exact Or.inr (Option.some.inj h').symm
        rcases hb with rfl | rfl
        · exact ⟨by omega, ih.2⟩
        · exact ⟨by omega, a⟩
    · rw [if_neg a] at h
      have ih := bk_lt h
      exact ⟨by omega, ih.2⟩
def amB (PL : PlT) (W : Nat) (ln : Nat → Nat) (SC : ScT) (w o : Nat) : Bool := if bt (hdS PL W ln SC) w = true then bt (hdS PL W ln SC) o else heB PL SC o
def bkS (PL : PlT) (W : Nat) (ln : Nat → Nat) (SC : ScT) (w : Nat) : Int32 := if heB PL SC w = true then oI (bk (amB PL W ln SC w) (fdN PL W ln SC) (qt SC) W) else -1
section BLOCK
variable {μ : Prop} {PL : PlT} {W : Nat} {ln : Nat → Nat} {SC : ScT} {MO : MoT} {β : Nat}
theorem fd_le {w : Nat} : fdN PL W ln SC w ≤ 8 := pc_le 8
theorem hd_he {o : Nat} (hW : W ≤ 8) (ho : o < W) (h : bt (hdS PL W ln SC) o = true) : heB PL SC o = true := by
  rw [b_hd hW (by omega)] at h
  cases z : heB PL SC o
  · rw [z, Bool.and_false, Bool.false_and] at h
    exact absurd h (by decide)
  · rfl
theorem am_he {w o : Nat} (hW : W ≤ 8) (ho : o < W) (h : amB PL W ln SC w o = true) : heB PL SC o = true := by
  unfold amB at h
  split at h
  · exact hd_he hW ho h
  · exact h
theorem s_freed (h : Sim μ PL W ln SC MO β) (hβ : β + 474 ≤ 948) {w : Nat} (hw : w < W) (hh : heB PL SC w = true) : ∃ all', FX10_freedBy MO (nI w) (hdS PL W ln SC) = some (nI (fdN PL W ln SC w), sMo_all MO all') ∧ OutO (Mo_all MO) all' ∧ Sim μ PL W ln SC (sMo_all MO all') β := by
  obtain ⟨k, hk, e, -, -⟩ := he_at h.1 h.2.1 hw hh
  have hb := h.2.2.2.2.1
  unfold FX10_freedBy
  simp only [nm]
  rw [hb, show (948 : Int32) = nI 948 from rfl, show (474 : Int32) = nI 474 from rfl, M_copies (by omega) (by omega) (by omega)]
  simp only [Option.bind_some]
  have h1 : Sim μ PL W ln SC (sMo_b (sMo_all MO (cpA (Mo_all MO) β 948 474)) (nI 948)) 948 := h.mv rfl (by omega) (fun i hi => by
    show (if 948 ≤ 948 + i ∧ 948 + i < 948 + 474 then Mo_all MO (β + (948 + i - 948)) else _) = _
    rw [if_pos (by omega), show 948 + i - 948 = i by omega])
  obtain ⟨all', g1, g2, g3⟩ := s_letsGo h1 hw hk e
  rw [g1]
  simp only [Option.bind_some]
  rw [s_hard g2]
  simp only [Option.bind_some]
  rw [m_bits]
  have ho : OutO (Mo_all MO) all' := fun j hj => (g3 j (by omega)).trans (if_neg (by omega))
  refine ⟨all', ?_, ho, h.mv (by exact hb) (by omega) (fun i hi => ho (β + i) (by omega))⟩
  rw [← hb]
  rfl
theorem s_block (h : Sim μ PL W ln SC MO β) (hβ : β + 474 ≤ 948) {w : Nat} (hw : w < W) : ∃ all', FX10_blocker MO (nI w) (hdS PL W ln SC) = some (bkS PL W ln SC w, sMo_all MO all') ∧ OutO (Mo_all MO) all' ∧ Sim μ PL W ln SC (sMo_all MO all') β := by
  have h8 := h.W8
  unfold FX10_blocker bkS
  rw [s_held h hw]
  simp only [Option.bind_some]
  cases hh : heB PL SC w
  · rw [if_pos bI_f, if_neg (by decide)]
    exact ⟨Mo_all MO, rfl, OutO.rf, h⟩
  · rw [if_neg bI_t, if_pos rfl]
    obtain ⟨e, q1, all', rfl, q2, q3⟩ := itr_inv (f := FX10_blocker_18 (nI w) (hdS PL W ln SC)) (Q := fun e => ∃ all', e = (oI (bk (amB PL W ln SC w) (fdN PL W ln SC) (qt SC) W), sMo_all MO all') ∧ OutO (Mo_all MO) all' ∧ Sim μ PL W ln SC (sMo_all MO all') β) (fun i t => ∃ all' ms, t = (oI (bk (amB PL W ln SC w) (fdN PL W ln SC) (qt SC) i), ms, nI i, sMo_all MO all') ∧ OutO (Mo_all MO) all' ∧ Sim μ PL W ln SC (sMo_all MO all') β ∧ ∀ b, bk (amB PL W ln SC w) (fdN PL W ln SC) (qt SC) i = some b → ms = nI (fdN PL W ln SC b)) W (by
      rintro i t hi ⟨all', ms, rfl, ho, hs, hm⟩
      unfold FX10_blocker_18
      simp only [nm]
      rw [s_workers hs]
      simp only [Option.bind_some]
      rw [nI_1]
      by_cases hiW : i < W
      · left
        refine ⟨hiW, ?_⟩
        rw [if_neg (nI_ge hiW (by omega)), s_held hs hiW]
        simp only [Option.bind_some]
        rw [m_has _ (show w < 32 by omega), m_has _ (show i < 32 by omega)]
        simp only [Option.bind_some]
        cases hi2 : heB PL SC i
        · have ha : ¬ amB PL W ln SC w i = true := fun z => by
            rw [am_he h8 hiW z] at hi2
            exact absurd hi2 (by decide)
          rw [if_pos bI_f]
          have er : bk (amB PL W ln SC w) (fdN PL W ln SC) (qt SC) (i + 1) = bk (amB PL W ln SC w) (fdN PL W ln SC) (qt SC) i := if_neg ha
          refine ⟨_, rfl, all', ms, ?_, ho, hs, ?_⟩
          · rw [er]
          · rw [er]
            exact hm
        · rw [if_neg bI_t]
          obtain ⟨all2, f1, f2, f3⟩ := s_freed hs hβ hiW hi2
          have hq : ∀ {α : Type} (x : Option α), x = x := fun _ => rfl
          -- what is done with one that is among them
          have core : amB PL W ln SC w i = true → ∃ t', (FX10_freedBy (sMo_all MO all') (nI i) (hdS PL W ln SC)).bind (fun r11 => if oI (bk (amB PL W ln SC w) (fdN PL W ln SC) (qt SC) i) = -1 then (some (Sum.inl (nI i, r11.1, nI (i + 1), r11.2)) : Option ((Int32 × Int32 × Int32 × MoT) ⊕ (Int32 × MoT))) else if r11.1 < ms then some (Sum.inl (oI (bk (amB PL W ln SC w) (fdN PL W ln SC) (qt SC) i), ms, nI (i + 1), r11.2)) else if r11.1 = ms then (FX10_quiet r11.2 (nI i)).bind (fun r18 => (FX10_quiet r11.2 (oI (bk (amB PL W ln SC w) (fdN PL W ln SC) (qt SC) i))).bind (fun r19 => if r19 < r18 then some (Sum.inl (nI i, r11.1, nI (i + 1), r11.2)) else some (Sum.inl (oI (bk (amB PL W ln SC w) (fdN PL W ln SC) (qt SC) i), ms, nI (i + 1), r11.2)))) else some (Sum.inl (nI i, r11.1, nI (i + 1), r11.2))) = some (Sum.inl t') ∧ ∃ all' ms, t' = (oI (bk (amB PL W ln SC w) (fdN PL W ln SC) (qt SC) (i + 1)), ms, nI (i + 1), sMo_all MO all') ∧ OutO (Mo_all MO) all' ∧ Sim μ PL W ln SC (sMo_all MO all') β ∧ ∀ b, bk (amB PL W ln SC w) (fdN PL W ln SC) (qt SC) (i + 1) = some b → ms = nI (fdN PL W ln SC b) := by
            intro ha
            rw [f1]
            simp only [Option.bind_some]
            have eb : bk (amB PL W ln SC w) (fdN PL W ln SC) (qt SC) (i + 1) = (match bk (amB PL W ln SC w) (fdN PL W ln SC) (qt SC) i with
              | none => some i
              | some b => if fdN PL W ln SC i = fdN PL W ln SC b then (if qt SC i ≤ qt SC b then some b else some i) else if fdN PL W ln SC i ≤ fdN PL W ln SC b then some b else some i) := if_pos ha
            cases hb : bk (amB PL W ln SC w) (fdN PL W ln SC) (qt SC) i with
            | none =>
              rw [hb] at eb
              have eb' : bk (amB PL W ln SC w) (fdN PL W ln SC) (qt SC) (i + 1) = some i := eb
              rw [if_pos (show oI none = -1 from rfl), eb']
              exact ⟨_, rfl, all2, _, rfl, ho.tr f2, f3, fun b hb => by rw [← Option.some.inj hb]⟩
            | some b =>
              rw [hb] at eb
              have eb' : bk (amB PL W ln SC w) (fdN PL W ln SC) (qt SC) (i + 1) = if fdN PL W ln SC i = fdN PL W ln SC b then (if qt SC i ≤ qt SC b then some b else some i) else if fdN PL W ln SC i ≤ fdN PL W ln SC b then some b else some i := eb
              have hbi := (bk_lt hb).1
              have hms := hm b hb
              have fi := fd_le (PL := PL) (W := W) (ln := ln) (SC := SC) (w := i)
              have fb := fd_le (PL := PL) (W := W) (ln := ln) (SC := SC) (w := b)
              rw [if_neg (show ¬ oI (some b) = -1 from nI_m1 b (by omega)), hms]
              by_cases c1 : fdN PL W ln SC i = fdN PL W ln SC b
              · rw [c1, if_neg (nI_nlt (Nat.le_refl _) (by omega)), if_pos rfl, s_quiet f3 hiW, show FX10_quiet (sMo_all (sMo_all MO all') all2) (oI (some b)) = some (qt SC b) from s_quiet f3 (show b < W by omega)]
                simp only [Option.bind_some]
                rw [if_pos c1] at eb'
                by_cases c2 : qt SC i ≤ qt SC b
                · rw [if_neg (Int32.not_lt.mpr c2)]
                  rw [if_pos c2] at eb'
                  rw [eb']
                  exact ⟨_, rfl, all2, _, rfl, ho.tr f2, f3, fun c hc => by rw [← Option.some.inj hc]⟩
                · rw [if_pos (Int32.not_le.mp c2)]
                  rw [if_neg c2] at eb'
                  rw [eb']
                  exact ⟨_, rfl, all2, _, rfl, ho.tr f2, f3, fun c hc => by rw [← Option.some.inj hc, c1]⟩
              · rw [if_neg c1] at eb'
                by_cases c2 : fdN PL W ln SC i ≤ fdN PL W ln SC b
                · rw [if_pos (nI_lt (by omega) (by omega))]
                  rw [if_pos c2] at eb'
                  rw [eb']
                  exact ⟨_, rfl, all2, _, rfl, ho.tr f2, f3, fun c hc => by rw [← Option.some.inj hc]⟩
                · rw [if_neg (nI_nlt (by omega) (by omega)), if_neg (fun z => c1 (nI_inj (by omega) (by omega) z))]
                  rw [if_neg c2] at eb'
                  rw [eb']
                  exact ⟨_, rfl, all2, _, rfl, ho.tr f2, f3, fun c hc => by rw [← Option.some.inj hc]⟩
          cases hwd : bt (hdS PL W ln SC) w
          · rw [if_pos bI_f]
            exact core (by unfold amB; rw [hwd, if_neg (by decide)]; exact hi2)
          · rw [if_neg bI_t]
            cases hid : bt (hdS PL W ln SC) i
            · have ha : ¬ amB PL W ln SC w i = true := by
                unfold amB
                rw [hwd, if_pos rfl, hid]
                decide
              have er : bk (amB PL W ln SC w) (fdN PL W ln SC) (qt SC) (i + 1) = bk (amB PL W ln SC w) (fdN PL W ln SC) (qt SC) i := if_neg ha
              rw [if_pos bI_f]
              refine ⟨_, rfl, all', ms, ?_, ho, hs, ?_⟩
              · rw [er]
              · rw [er]
                exact hm
            · rw [if_neg bI_t]
              exact core (by unfold amB; rw [hwd, if_pos rfl]; exact hid)
      · right
        have : i = W := by omega
        subst this
        rw [if_pos (nI_le (Nat.le_refl _) (by omega))]
        exact ⟨_, rfl, all', rfl, ho, hs⟩) (s := ((-1 : Int32), (0 : Int32), (0 : Int32), MO)) ⟨Mo_all MO, 0, rfl, OutO.rf, h, fun b hb => by cases hb⟩
    rw [q1]
    exact ⟨all', rfl, q2, q3⟩
/-! the class -/
theorem b_and0 {x : Int32} : (0 : Int32) &&& x = 0 := by
  apply b_ext
  intro j hj
  rw [b_and, b_0]
  rfl
def FreesOK (PL : PlT) (W : Nat) (ln : Nat → Nat) (SC : ScT) (TR : TrT) : Prop := ∀ w, w < W → heB PL SC w = true → Tr_frees TR w = nI (fdN PL W ln SC w)
theorem c_weigh {TR : TrT} {SCt : ScT} {VWt VW : VwT} (hP : PlanOK PL W ln) (hR : ReachOK PL W ln) (hS : SceneOK W ln SC) (hN : NormS SC) (hNt : NormS SCt) (hV : ViewOK PL W ln SC VW) : ∃ TR' SC' VW', FX6_weigh TR SCt VWt PL SC VW = some (TR', SC', VW') ∧ FreesOK PL W ln SC TR' ∧ NormS SC' := by
  have h8 := hP.2.1
  obtain ⟨e, q1, TR', SC', VW', rfl, q2, q3⟩ := itr_inv (f := FX6_weigh_3 PL SC VW) (Q := fun e => ∃ TR' SC' VW', e = (TR', SC', VW') ∧ FreesOK PL W ln SC TR' ∧ NormS SC') (fun i t => ∃ TR' SC' VW', t = (nI i, TR', SC', VW') ∧ (∀ w, w < i → heB PL SC w = true → Tr_frees TR' w = nI (fdN PL W ln SC w)) ∧ NormS SC') W (by
    rintro i t hi ⟨TR', SC', VW', rfl, hf, hn⟩
    unfold FX6_weigh_3
    simp only [nm]
    rw [hP.1, nI_1]
    by_cases hiW : i < W
    · left
      refine ⟨hiW, ?_⟩
      have keep0 : ∀ w, w < i → heB PL SC w = true → Tr_frees (sTr_frees TR' (upd (Tr_frees TR') i 0)) w = nI (fdN PL W ln SC w) := fun w hw hh => (if_neg (by omega)).trans (hf w hw hh)
      rw [if_neg (nI_ge hiW (by omega)), ix_nI (by omega) (by decide), nI_clamp (by omega), hV.2.2.2.2.1, hV.2.2.1, c_has _ (show i < 8 by omega), b_mk _ W (by omega) i (by omega), decide_eq_true hiW, Bool.true_and]
      simp only [Option.bind_some]
      by_cases h0 : hdS PL W ln SC = 0
      · rw [if_pos h0]
        refine ⟨_, rfl, _, SC', VW', rfl, fun w hw hh => ?_, hn⟩
        by_cases ew : w = i
        · subst ew
          have e0 : fdN PL W ln SC w = 0 := by
            unfold fdN
            rw [h0, b_and0]
            decide
          rw [e0]
          exact if_pos rfl
        · exact keep0 w (by omega) hh
      · rw [if_neg h0]
        cases hh : heB PL SC i
        · rw [if_pos bI_f]
          refine ⟨_, rfl, _, SC', VW', rfl, fun w hw hh' => ?_, hn⟩
          by_cases ew : w = i
          · subst ew
            rw [hh] at hh'
            exact absurd hh' (by decide)
          · exact keep0 w (by omega) hh'
        · obtain ⟨k, hk, e, -, -⟩ := he_at hP hS hiW hh
          obtain ⟨g1, g2, g3⟩ := c_letGo hP hS hiW hk e
          obtain ⟨VW2, l1, l2⟩ := c_look VW' hP hR g2
          rw [if_neg bI_t, take_eq hn hN, Option.bind_some, g1, Option.bind_some, l1, Option.bind_some, l2.2.2.2.2.1, c_bits (sm_and (sm_hd h8)), Option.bind_some, ix_nI (by omega) (by decide)]
          refine ⟨_, rfl, _, lgS PL ln SC i, VW2, rfl, fun w hw hh' => ?_, g3 hN⟩
          by_cases ew : w = i
          · subst ew
            exact if_pos rfl
          · exact (if_neg ew).trans (keep0 w (by omega) hh')
    · right
      have : i = W := by omega
      subst this
      rw [if_pos (nI_le (Nat.le_refl _) (by omega))]
      exact ⟨_, rfl, TR', SC', VW', rfl, hf, hn⟩) (s := ((0 : Int32), TR, SCt, VWt)) ⟨TR, SCt, VWt, rfl, fun w hw => by omega, hNt⟩
  refine ⟨TR', SC', VW', ?_, q2, q3⟩
  unfold FX6_weigh
  rw [q1]
  rfl
theorem c_better {TR : TrT} (hW : W ≤ 8) (hF : FreesOK PL W ln SC TR) {a b : Nat} (ha : a < W) (hb : b < W) (ea : heB PL SC a = true) (eb : heB PL SC b = true) : FX6_isBetter TR SC (nI a) (nI b) = some (if fdN PL W ln SC a = fdN PL W ln SC b then !decide (qt SC a ≤ qt SC b) else !decide (fdN PL W ln SC a ≤ fdN PL W ln SC b)) := by
  have fi := fd_le (PL := PL) (W := W) (ln := ln) (SC := SC) (w := a)
  have fb := fd_le (PL := PL) (W := W) (ln := ln) (SC := SC) (w := b)
  unfold FX6_isBetter
  rw [ix_nI (show a < 8 by omega) (by decide), ix_nI (show b < 8 by omega) (by decide), ix_nI (show a < 8 by omega) (by decide), ix_nI (show b < 8 by omega) (by decide), nI_clamp (show a < 2 ^ 31 by omega), nI_clamp (show b < 2 ^ 31 by omega), hF a ha ea, hF b hb eb, quiet_eq (show a < 8 by omega), quiet_eq (show b < 8 by omega)]
  simp only [Option.bind_some]
  by_cases c1 : fdN PL W ln SC a = fdN PL W ln SC b
  · rw [if_pos (by rw [c1]), if_pos c1]
    exact if_ndec
  · rw [if_neg (fun z => c1 (nI_inj (by omega) (by omega) z)), if_neg c1]
    by_cases c2 : fdN PL W ln SC a ≤ fdN PL W ln SC b
    · rw [if_pos (nI_le c2 (by omega)), decide_eq_true c2]
      rfl
    · rw [if_neg (nI_ge (by omega) (by omega)), decide_eq_false c2]
      rfl
theorem c_block1 {TR : TrT} {VW : VwT} (hW : W ≤ 8) (hF : FreesOK PL W ln SC TR) (hV : Vw_workers VW = nI W) {A : Nat → Bool} {x : Int32} (hA : ∀ o, o < W → bt x o = A o) (hh : ∀ o, o < W → A o = true → heB PL SC o = true) : FX6_blocker_j35 TR SC VW x = some (oI (bk A (fdN PL W ln SC) (qt SC) W)) := by
  have q : itr (FX6_blocker_43 TR SC VW x) ((-1 : Int32), (0 : Int32)) = some (oI (bk A (fdN PL W ln SC) (qt SC) W)) := by
    refine itr_chain (fun i => (oI (bk A (fdN PL W ln SC) (qt SC) i), nI i)) W (fun i hi => ?_) ?_
    · unfold FX6_blocker_43
      simp only [nm]
      rw [hV, if_neg (nI_ge hi (by omega)), c_has _ (show i < 8 by omega), hA i hi, nI_1]
      simp only [Option.bind_some]
      cases ha : A i
      · rw [if_pos bI_f, show bk A (fdN PL W ln SC) (qt SC) (i + 1) = bk A (fdN PL W ln SC) (qt SC) i from if_neg (by rw [ha]; decide)]
      · rw [if_neg bI_t]
        have eb : bk A (fdN PL W ln SC) (qt SC) (i + 1) = (match bk A (fdN PL W ln SC) (qt SC) i with
              | none => some i
              | some b => if fdN PL W ln SC i = fdN PL W ln SC b then (if qt SC i ≤ qt SC b then some b else some i) else if fdN PL W ln SC i ≤ fdN PL W ln SC b then some b else some i) := if_pos ha
        cases hb : bk A (fdN PL W ln SC) (qt SC) i with
        | none =>
          rw [hb] at eb
          have eb' : bk A (fdN PL W ln SC) (qt SC) (i + 1) = some i := eb
          rw [if_pos (show oI none = -1 from rfl), eb']
          rfl
        | some b =>
          rw [hb] at eb
          have eb' : bk A (fdN PL W ln SC) (qt SC) (i + 1) = if fdN PL W ln SC i = fdN PL W ln SC b then (if qt SC i ≤ qt SC b then some b else some i) else if fdN PL W ln SC i ≤ fdN PL W ln SC b then some b else some i := eb
          have hbi := bk_lt hb
          rw [if_neg (show ¬ oI (some b) = -1 from nI_m1 b (by omega)), show FX6_isBetter TR SC (nI i) (oI (some b)) = _ from c_better hW hF hi (show b < W by omega) (hh i hi ha) (hh b (by omega) hbi.2), eb']
          simp only [Option.bind_some]
          by_cases c1 : fdN PL W ln SC i = fdN PL W ln SC b
          · rw [if_pos c1, if_pos c1]
            by_cases c2 : qt SC i ≤ qt SC b
            · rw [decide_eq_true c2, if_pos c2]
              exact if_pos bI_f
            · rw [decide_eq_false c2, if_neg c2]
              exact if_neg bI_t
          · rw [if_neg c1, if_neg c1]
            by_cases c2 : fdN PL W ln SC i ≤ fdN PL W ln SC b
            · rw [decide_eq_true c2, if_pos c2]
              exact if_pos bI_f
            · rw [decide_eq_false c2, if_neg c2]
              exact if_neg bI_t
    · unfold FX6_blocker_43
      rw [hV, if_pos (nI_le (Nat.le_refl _) (by omega))]
  unfold FX6_blocker_j35
  rw [q]
  rfl
theorem c_block {TR : TrT} {VW : VwT} (hW : W ≤ 8) (hF : FreesOK PL W ln SC TR) (hV : ViewOK PL W ln SC VW) {w : Nat} (hw : w < W) : FX6_blocker TR SC VW (nI w) = some (bkS PL W ln SC w) := by
  unfold FX6_blocker bkS
  rw [hV.2.2.1, hV.2.2.2.2.1, c_has _ (show w < 8 by omega), c_has _ (show w < 8 by omega), b_mk _ W (by omega) w (by omega), decide_eq_true hw, Bool.true_and]
  simp only [Option.bind_some]
  cases hh : heB PL SC w
  · rw [if_pos bI_f, if_neg (by decide)]
  · rw [if_neg bI_t, if_pos rfl]
    cases hd : bt (hdS PL W ln SC) w
    · rw [if_pos bI_f]
      refine c_block1 hW hF hV.1 (fun o ho => ?_) (fun o ho ha => am_he hW ho ha)
      unfold amB
      rw [hd, if_neg (by decide), b_mk _ W (by omega) o (by omega), decide_eq_true ho, Bool.true_and]
    · rw [if_neg bI_t]
      refine c_block1 hW hF hV.1 (fun o ho => ?_) (fun o ho ha => am_he hW ho ha)
      unfold amB
      rw [hd, if_pos rfl]
end BLOCK
