/-! ===== who is free to go; a look ===== -/
def rd (wf : Nat → Int32) (s : Int32) : Nat → Int32
  | 0 => s
  | n + 1 => if wf n &&& rd wf s n = 0 then rd wf s n else rd wf s n ||| ((1 : Int32) <<< (nI n &&& 31))
def rds (wf : Nat → Int32) (W : Nat) (s : Int32) : Nat → Int32
  | 0 => s
  | n + 1 => rd wf (rds wf W s n) W
theorem rd_mono {wf : Nat → Int32} {s : Int32} {i : Nat} (h : bt s i = true) : ∀ n, bt (rd wf s n) i = true
  | 0 => h
  | n + 1 => by
    unfold rd
    split
    · exact rd_mono h n
    · rw [b_or, rd_mono h n]
      rfl
theorem rds_mono {wf : Nat → Int32} {W : Nat} {s : Int32} {i : Nat} (h : bt s i = true) : ∀ n, bt (rds wf W s n) i = true
  | 0 => h
  | n + 1 => rd_mono (rds_mono h n) W
/-- what may be in the set -/
theorem rd_only {wf : Nat → Int32} {s : Int32} {i : Nat} (hi : i < 32) {P : Prop} (h : bt s i = true → P) : ∀ n, n ≤ 8 → (i < n → wf i ≠ 0 → P) → bt (rd wf s n) i = true → P
  | 0, _, _ => h
  | n + 1, hn, hf => by
    unfold rd
    split
    · exact rd_only hi h n (by omega) (fun a => hf (by omega))
    · intro hb
      rw [b_or] at hb
      cases z : bt (rd wf s n) i
      · rw [z, Bool.false_or, b_bit n (by omega) i hi] at hb
        have e : n = i := of_decide_eq_true hb
        subst e
        refine hf (by omega) (fun y => ?_)
        rename_i hne
        rw [y] at hne
        exact hne (by apply b_ext; intro j hj; rw [b_and, b_0]; rfl)
      · exact rd_only hi h n (by omega) (fun a => hf (by omega)) z
theorem rds_only {wf : Nat → Int32} {W : Nat} {s : Int32} {i : Nat} (hi : i < 32) (hW : W ≤ 8) {P : Prop} (h : bt s i = true → P) (hf : i < W → wf i ≠ 0 → P) : ∀ n, bt (rds wf W s n) i = true → P
  | 0 => h
  | n + 1 => rd_only hi (rds_only hi hW h hf n) W hW hf
theorem rds_fix {wf : Nat → Int32} {W : Nat} {s : Int32} {n : Nat} (h : rd wf (rds wf W s n) W = rds wf W s n) : ∀ d, rds wf W s (n + d) = rds wf W s n
  | 0 => rfl
  | d + 1 => by
    show rd wf (rds wf W s (n + d)) W = _
    rw [rds_fix h d, h]
section LOOK
variable {μ : Prop} {PL : PlT} {W : Nat} {ln : Nat → Nat} {SC : ScT} {MO : MoT} {β : Nat}
theorem or_has {x : Int32} {i : Nat} (hi : i < 32) (h : bt x i = true) : x ||| ((1 : Int32) <<< (nI i &&& 31)) = x := by
  apply b_ext
  intro j hj
  rw [b_or, b_bit i hi j hj]
  by_cases e : i = j
  · subst e
    rw [h]
    rfl
  · rw [decide_eq_false e, Bool.or_false]
theorem c_round {VW : VwT} {wf : Nat → Int32} {s : Int32} (hW : W ≤ 8) (hw : Vw_workers VW = nI W) (hf : ∀ w, w < W → Vw_waitsFor VW w = wf w) : ∃ m, itr FX7_spreadFreedom_20 ((0 : Int32), (0 : Int32), sVw_freeToGo VW s) = some (m, sVw_freeToGo VW (rd wf s W)) ∧ (m = 0 ∧ rd wf s W = s ∨ m = 1) := by
  obtain ⟨e, q1, m, rfl, q2⟩ := itr_inv (f := FX7_spreadFreedom_20) (Q := fun e => ∃ m, e = (m, sVw_freeToGo VW (rd wf s W)) ∧ (m = 0 ∧ rd wf s W = s ∨ m = 1)) (fun i t => ∃ m, t = (m, nI i, sVw_freeToGo VW (rd wf s i)) ∧ (m = 0 ∧ rd wf s i = s ∨ m = 1)) W (by
    rintro i t hi ⟨m, rfl, hm⟩
    unfold FX7_spreadFreedom_20
    simp only [nm]
    rw [show Vw_workers (sVw_freeToGo VW (rd wf s i)) = nI W from hw, nI_1]
    by_cases hiW : i < W
    · left
      refine ⟨hiW, ?_⟩
      rw [if_neg (nI_ge hiW (by omega)), show Vw_freeToGo (sVw_freeToGo VW (rd wf s i)) = rd wf s i from rfl, c_has _ (show i < 8 by omega)]
      simp only [Option.bind_some]
      rw [ix_nI (by omega) (by decide), nI_clamp (by omega), show Vw_waitsFor (sVw_freeToGo VW (rd wf s i)) i = wf i from hf i hiW]
      cases z : bt (rd wf s i) i
      · rw [if_pos bI_f]
        by_cases y : wf i &&& rd wf s i = 0
        · rw [if_pos y]
          refine ⟨_, rfl, m, ?_, ?_⟩
          · rw [show rd wf s (i + 1) = rd wf s i from if_pos y]
          · rw [show rd wf s (i + 1) = rd wf s i from if_pos y]
            exact hm
        · rw [if_neg y]
          refine ⟨_, rfl, 1, ?_, Or.inr rfl⟩
          rw [show rd wf s (i + 1) = rd wf s i ||| ((1 : Int32) <<< (nI i &&& 31)) from if_neg y]
      · rw [if_neg bI_t]
        have er : rd wf s (i + 1) = rd wf s i := by
          show (if wf i &&& rd wf s i = 0 then rd wf s i else rd wf s i ||| ((1 : Int32) <<< (nI i &&& 31))) = rd wf s i
          split
          · rfl
          · exact or_has (by omega) z
        refine ⟨_, rfl, m, ?_, ?_⟩
        · rw [er]
        · rw [er]
          exact hm
    · right
      have : i = W := by omega
      subst this
      rw [if_pos (nI_le (Nat.le_refl _) (by omega))]
      exact ⟨_, rfl, m, rfl, hm⟩) (s := ((0 : Int32), (0 : Int32), sVw_freeToGo VW s)) ⟨0, rfl, Or.inl ⟨rfl, rfl⟩⟩
  exact ⟨m, q1, q2⟩
theorem c_spread {VW : VwT} {wf : Nat → Int32} (hW : W ≤ 8) (hw : Vw_workers VW = nI W) (hf : ∀ w, w < W → Vw_waitsFor VW w = wf w) : FX7_spreadFreedom VW = some (sVw_freeToGo VW (rds wf W (Vw_freeToGo VW) W)) := by
  obtain ⟨e, q1, rfl⟩ := itr_inv (f := FX7_spreadFreedom_4) (Q := fun e => e = sVw_freeToGo VW (rds wf W (Vw_freeToGo VW) W)) (fun i t => ∃ m, t = (m, nI i, sVw_freeToGo VW (rds wf W (Vw_freeToGo VW) i)) ∧ (m = 0 ∧ rd wf (rds wf W (Vw_freeToGo VW) i) W = rds wf W (Vw_freeToGo VW) i ∨ m = 1)) W (by
    rintro i t hi ⟨m, rfl, hm⟩
    unfold FX7_spreadFreedom_4
    simp only [nm]
    rw [show Vw_workers (sVw_freeToGo VW (rds wf W (Vw_freeToGo VW) i)) = nI W from hw, nI_1]
    by_cases hiW : i < W
    · rw [if_neg (nI_ge hiW (by omega))]
      rcases hm with ⟨rfl, hfix⟩ | rfl
      · right
        rw [if_pos rfl]
        refine ⟨_, rfl, ?_⟩
        have := rds_fix hfix (W - i)
        rw [show i + (W - i) = W by omega] at this
        rw [this]
      · left
        refine ⟨hiW, ?_⟩
        rw [if_neg (show ¬ (1 : Int32) = 0 by decide)]
        obtain ⟨m', r1, r2⟩ := c_round (VW := VW) (wf := wf) (s := rds wf W (Vw_freeToGo VW) i) hW hw hf
        rw [r1]
        simp only [Option.bind_some]
        refine ⟨_, rfl, m', rfl, ?_⟩
        rcases r2 with ⟨rfl, r3⟩ | rfl
        · left
          refine ⟨rfl, ?_⟩
          show rd wf (rd wf (rds wf W (Vw_freeToGo VW) i) W) W = rd wf (rds wf W (Vw_freeToGo VW) i) W
          rw [r3, r3]
        · exact Or.inr rfl
    · right
      have : i = W := by omega
      subst this
      rw [if_pos (nI_le (Nat.le_refl _) (by omega))]
      exact ⟨_, rfl, rfl⟩) (s := ((1 : Int32), (0 : Int32), VW)) ⟨1, rfl, Or.inr rfl⟩
  unfold FX7_spreadFreedom
  rw [q1]
  rfl
def fr0 (PL : PlT) (SC : ScT) (w : Nat) : Bool := !enB SC w && canB PL SC w (pl SC w)
def frS (PL : PlT) (W : Nat) (ln : Nat → Nat) (SC : ScT) : Int32 := rds (wt PL W ln SC) W (mk (fr0 PL SC) W) W
def hdS (PL : PlT) (W : Nat) (ln : Nat → Nat) (SC : ScT) : Int32 := mk (heB PL SC) W &&& (frS PL W ln SC ^^^ (-1))
def qt (SC : ScT) (w : Nat) : Int32 := Sc_tick SC - Sc_beat SC w
def quB (SC : ScT) (w : Nat) : Bool := !decide (qt SC w < Sc_window SC)
def slB (PL : PlT) (SC : ScT) (w : Nat) : Bool := !enB SC w && (decide (kdN PL SC w = nI 7) && !decide (qt SC w < Sc_window SC + Sc_grace SC))
def soB (PL : PlT) (W : Nat) (ln : Nat → Nat) (SC : ScT) (w : Nat) : Bool := heB PL SC w && (!bt (hdS PL W ln SC) w && quB SC w)
def huB (PL : PlT) (W : Nat) (ln : Nat → Nat) (SC : ScT) (w : Nat) : Bool := bt (hdS PL W ln SC) w && quB SC w
def ViewOK (PL : PlT) (W : Nat) (ln : Nat → Nat) (SC : ScT) (VW : VwT) : Prop := Vw_workers VW = nI W ∧ Vw_ended VW = mk (enB SC) W ∧ Vw_heldUp VW = mk (heB PL SC) W ∧ Vw_freeToGo VW = frS PL W ln SC ∧ Vw_hard VW = hdS PL W ln SC ∧ Vw_soft VW = mk (soB PL W ln SC) W ∧ Vw_slow VW = mk (slB PL SC) W ∧ Vw_hung VW = mk (huB PL W ln SC) W ∧ ∀ w, w < W → Vw_waitsFor VW w = wt PL W ln SC w
theorem wt_ne {w : Nat} (h : wt PL W ln SC w ≠ 0) : heB PL SC w = true := by
  cases z : heB PL SC w
  · exfalso
    apply h
    unfold wt
    rw [z, if_neg (by decide)]
  · rfl
theorem b_hd {i : Nat} (hW : W ≤ 8) (hi : i < 32) : bt (hdS PL W ln SC) i = (decide (i < W) && heB PL SC i && !bt (frS PL W ln SC) i) := by
  unfold hdS
  rw [b_and, b_mk _ W (by omega) i hi, b_not _ hi]
theorem fr_only {i : Nat} (hW : W ≤ 8) (hi : i < 32) (h : bt (frS PL W ln SC) i = true) : i < W ∧ enB SC i = false := by
  refine rds_only hi hW (P := i < W ∧ enB SC i = false) ?_ ?_ W h
  · intro hb
    rw [b_mk _ W (by omega) i hi] at hb
    have h1 := (Bool.and_eq_true _ _).mp hb
    refine ⟨of_decide_eq_true h1.1, ?_⟩
    have h2 := h1.2
    unfold fr0 at h2
    cases z : enB SC i
    · rfl
    · rw [z] at h2
      exact bft h2
  · intro hiW hne
    refine ⟨hiW, ?_⟩
    have h2 := wt_ne hne
    unfold heB at h2
    cases z : enB SC i
    · rfl
    · rw [z] at h2
      exact bft h2
theorem sm_fr (hW : W ≤ 8) : Sm (frS PL W ln SC) := fun k h1 h2 => by
  cases z : bt (frS PL W ln SC) k
  · rfl
  · have := (fr_only hW h2 z).1
    omega
theorem sm_hd (hW : W ≤ 8) : Sm (hdS PL W ln SC) := sm_and (sm_mk hW)
/-- one that is neither ended nor held up is free to go -/
theorem fr_yes {i : Nat} (hW : W ≤ 8) (hi : i < W) (h1 : enB SC i = false) (h2 : heB PL SC i = false) : bt (frS PL W ln SC) i = true := by
  apply rds_mono
  rw [b_mk _ W (by omega) i (by omega), decide_eq_true hi]
  unfold heB at h2
  unfold fr0
  rw [h1] at h2 ⊢
  cases z : canB PL SC i (pl SC i)
  · rw [z] at h2
    exact absurd h2 (by decide)
  · rfl
theorem hd_alt (hW : W ≤ 8) : mk (fun w => !enB SC w) W &&& (frS PL W ln SC ^^^ (-1)) = hdS PL W ln SC := by
  apply b_ext
  intro i hi
  rw [b_hd hW hi, b_and, b_mk _ W (by omega) i hi, b_not _ hi]
  by_cases hiW : i < W
  · rw [decide_eq_true hiW, Bool.true_and, Bool.true_and]
    cases h1 : enB SC i
    · cases h2 : heB PL SC i
      · rw [fr_yes hW hiW h1 h2]
        rfl
      · rfl
    · have : heB PL SC i = false := by unfold heB; rw [h1]; rfl
      rw [this]
      rfl
  · rw [decide_eq_false hiW]
    rfl
theorem quiet_eq {w : Nat} (hw : w < 8) : FX3_quiet SC (nI w) = some (qt SC w) := by
  unfold FX3_quiet
  rw [ix_nI hw (by decide), nI_clamp (by omega)]
  rfl
theorem late_one {VW : VwT} (hP : PlanOK PL W ln) (hS : SceneOK W ln SC) {i : Nat} (hi : i < W) (q : Int32) : FX7_findLate_j39 PL SC (mk (quB SC) i, nI i, sVw_slow VW (mk (slB PL SC) i)) q = some (.inl (q, nI (i + 1), sVw_slow VW (mk (slB PL SC) (i + 1)))) := by
  have h8 := hP.2.1
  have h12 := (hP.2.2.1 i hi).2.2
  unfold FX7_findLate_j39 FX7_findLate_j62
  simp only [nm]
  rw [ix_nI (by omega) (by decide), nI_clamp (by omega), nI_1, quiet_eq (show i < 8 by omega)]
  simp only [Option.bind_some]
  rcases hS.1 i hi with e | ⟨k, hk, e⟩
  · have hs : slB PL SC i = false := by unfold slB; rw [en_t e]; rfl
    rw [e, kindAt_neg hP.1 h8 hi]
    simp only [Option.bind_some]
    rw [if_neg (show ¬ (-1 : Int32) = 7 by decide), if_pos trivial, mk_f hs]
  · have ee := en_f e (by omega)
    have ek : kdN PL SC i = Pl_kinds PL (12 * i + k) := by unfold kdN; rw [pl_eq e (by omega)]
    rw [e, c_kind hP hi hk]
    simp only [Option.bind_some]
    by_cases k7 : Pl_kinds PL (12 * i + k) = 7
    · rw [if_pos k7, if_neg (show ¬ (1 : Int32) = 0 by decide)]
      by_cases y : qt SC i < Sc_window SC + Sc_grace SC
      · rw [if_pos y, mk_f (P := slB PL SC) (n := i) (by unfold slB; rw [decide_eq_true y]; simp)]
      · rw [if_neg y]
        have hs : slB PL SC i = true := by unfold slB; rw [ee, ek, decide_eq_true (show Pl_kinds PL (12 * i + k) = nI 7 from k7), decide_eq_false y]; rfl
        rw [← mk_t hs]
    · rw [if_neg k7, if_pos trivial, mk_f (P := slB PL SC) (n := i) (by unfold slB; rw [ek, decide_eq_false (show ¬ Pl_kinds PL (12 * i + k) = nI 7 from k7)]; simp)]
theorem c_late {VW : VwT} (hP : PlanOK PL W ln) (hS : SceneOK W ln SC) (hw : Vw_workers VW = nI W) (hh : Vw_heldUp VW = mk (heB PL SC) W) (hd : Vw_hard VW = hdS PL W ln SC) : FX7_findLate VW PL SC = some (sVw_hung (sVw_soft (sVw_slow VW (mk (slB PL SC) W)) (mk (soB PL W ln SC) W)) (mk (huB PL W ln SC) W)) := by
  have h8 := hP.2.1
  have q : itr (FX7_findLate_10 PL SC) ((0 : Int32), (0 : Int32), sVw_slow VW 0) = some (mk (quB SC) W, sVw_slow VW (mk (slB PL SC) W)) := by
    refine itr_chain (fun i => (mk (quB SC) i, nI i, sVw_slow VW (mk (slB PL SC) i))) W (fun i hi => ?_) ?_
    · unfold FX7_findLate_10
      simp only [nm]
      rw [show Vw_workers (sVw_slow VW (mk (slB PL SC) i)) = nI W from hw, if_neg (nI_ge hi (by omega)), quiet_eq (show i < 8 by omega)]
      simp only [Option.bind_some]
      rw [late_one hP hS hi, late_one hP hS hi]
      by_cases y : qt SC i < Sc_window SC
      · rw [if_pos y, ← mk_f (P := quB SC) (n := i) (by unfold quB; rw [decide_eq_true y]; rfl)]
      · rw [if_neg y, mk_t (P := quB SC) (n := i) (by unfold quB; rw [decide_eq_false y]; rfl)]
    · unfold FX7_findLate_10
      rw [show Vw_workers (sVw_slow VW (mk (slB PL SC) W)) = nI W from hw, if_pos (nI_le (Nat.le_refl _) (by omega))]
  unfold FX7_findLate
  simp only [nm]
  rw [q]
  simp only [Option.bind_some]
  have e1 : Vw_heldUp (sVw_slow VW (mk (slB PL SC) W)) &&& (Vw_hard (sVw_slow VW (mk (slB PL SC) W)) ^^^ (-1)) &&& mk (quB SC) W = mk (soB PL W ln SC) W := by
    show Vw_heldUp VW &&& (Vw_hard VW ^^^ (-1)) &&& mk (quB SC) W = _
    rw [hh, hd]
    apply b_ext
    intro i hi
    rw [b_and, b_and, b_not _ hi, b_mk _ W (by omega) i hi, b_mk _ W (by omega) i hi, b_mk _ W (by omega) i hi]
    unfold soB
    by_cases hiW : i < W
    · rw [decide_eq_true hiW, Bool.true_and, Bool.true_and, Bool.true_and, Bool.and_assoc]
    · rw [decide_eq_false hiW, Bool.false_and, Bool.false_and, Bool.false_and, Bool.false_and]
  have e2 : Vw_hard VW &&& mk (quB SC) W = mk (huB PL W ln SC) W := by
    rw [hd]
    apply b_ext
    intro i hi
    rw [b_and, b_mk _ W (by omega) i hi, b_mk _ W (by omega) i hi]
    unfold huB
    by_cases hiW : i < W
    · rw [decide_eq_true hiW, Bool.true_and, Bool.true_and]
    · rw [b_hd h8 hi, decide_eq_false hiW]
      rfl
  rw [e1]
  show some (sVw_hung (sVw_soft (sVw_slow VW (mk (slB PL SC) W)) (mk (soB PL W ln SC) W)) (Vw_hard VW &&& mk (quB SC) W)) = _
  rw [e2]
end LOOK
