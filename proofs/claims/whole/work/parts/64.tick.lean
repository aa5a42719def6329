/-! ===== a whole tick on both sides ===== -/
section MARKS
variable {PL : PlT} {W : Nat} {ln : Nat → Nat} {SC : ScT} {f : Nat → Int32}
theorem en_mk : enB (sSc_marks SC f) = enB SC := rfl
theorem pl_mk : pl (sSc_marks SC f) = pl SC := rfl
theorem can_mk : canB PL (sSc_marks SC f) = canB PL SC := rfl
theorem kd_mk : kdN PL (sSc_marks SC f) = kdN PL SC := rfl
theorem nu_mk : nuN PL (sSc_marks SC f) = nuN PL SC := rfl
theorem qt_mk : qt (sSc_marks SC f) = qt SC := rfl
theorem qu_mk : quB (sSc_marks SC f) = quB SC := rfl
theorem he_mk : heB PL (sSc_marks SC f) = heB PL SC := rfl
theorem cn_mk : cnB PL ln (sSc_marks SC f) = cnB PL ln SC := rfl
theorem wt_mk : wt PL W ln (sSc_marks SC f) = wt PL W ln SC := rfl
theorem fr0_mk : fr0 PL (sSc_marks SC f) = fr0 PL SC := rfl
theorem hd_mk : hdS PL W ln (sSc_marks SC f) = hdS PL W ln SC := by
  unfold hdS frS
  rw [he_mk, wt_mk, fr0_mk]
theorem sl_mk : slB PL (sSc_marks SC f) = slB PL SC := rfl
theorem so_mk : soB PL W ln (sSc_marks SC f) = soB PL W ln SC := by
  funext w
  unfold soB
  rw [he_mk, hd_mk, qu_mk]
theorem hu_mk : huB PL W ln (sSc_marks SC f) = huB PL W ln SC := by
  funext w
  unfold huB
  rw [hd_mk, qu_mk]
theorem fr_mk : frS PL W ln (sSc_marks SC f) = frS PL W ln SC := by
  unfold frS
  rw [wt_mk, fr0_mk]
theorem lg_mk {w : Nat} : ∃ g, lgS PL ln (sSc_marks SC f) w = sSc_marks (lgS PL ln SC w) g := by
  unfold lgS
  rw [kd_mk, nu_mk, pl_mk]
  by_cases c : kdN PL SC w = nI 1
  · rw [if_pos c, if_pos c]
    exact ⟨upd f w 0, rfl⟩
  · rw [if_neg c, if_neg c]
    exact ⟨upd f w 0, rfl⟩
theorem fd_mk : fdN PL W ln (sSc_marks SC f) = fdN PL W ln SC := by
  funext w
  obtain ⟨g, hg⟩ := lg_mk (PL := PL) (ln := ln) (SC := SC) (f := f) (w := w)
  unfold fdN
  rw [hg, hd_mk (SC := SC) (f := f), hd_mk (SC := lgS PL ln SC w) (f := g)]
theorem am_mk {w : Nat} : amB PL W ln (sSc_marks SC f) w = amB PL W ln SC w := by
  funext o
  unfold amB
  rw [hd_mk, he_mk]
theorem bk_mk {w : Nat} : bkS PL W ln (sSc_marks SC f) w = bkS PL W ln SC w := by
  unfold bkS
  rw [he_mk, am_mk, fd_mk, qt_mk]
theorem nb_mk {w : Nat} : nbS PL W ln (sSc_marks SC f) w = nbS PL W ln SC w := by
  have : nbP PL W ln (sSc_marks SC f) = nbP PL W ln SC := by
    funext o
    unfold nbP
    rw [en_mk, hd_mk]
  unfold nbS
  rw [this]
theorem view_mk {VW : VwT} (h : ViewOK PL W ln SC VW) : ViewOK PL W ln (sSc_marks SC f) VW := by
  unfold ViewOK
  rw [en_mk, he_mk, fr_mk, hd_mk, so_mk, sl_mk, hu_mk, wt_mk]
  exact h
end MARKS
def kN (PL : PlT) (W : Nat) (ln : Nat → Nat) (SC : ScT) (w : Nat) : Nat := if huB PL W ln SC w = true then 0 else if soB PL W ln SC w = true then 1 else 2
def anK (PL : PlT) (W : Nat) (ln : Nat → Nat) (SC : ScT) (w : Nat) : Bool := huB PL W ln SC w || (soB PL W ln SC w || slB PL SC w)
def knd (PL : PlT) (W : Nat) (ln : Nat → Nat) (SC : ScT) (w : Nat) : Int32 := if anK PL W ln SC w = true then nI (kN PL W ln SC w) else -1
def fsB (PL : PlT) (W : Nat) (ln : Nat → Nat) (SC : ScT) (w : Nat) : Bool := anK PL W ln SC w && !bt (Sc_marks SC w) (kN PL W ln SC w)
def msF (PL : PlT) (W : Nat) (ln : Nat → Nat) (SC : ScT) : Nat → Nat → Int32
  | 0 => Sc_marks SC
  | n + 1 => if fsB PL W ln SC n = true then upd (msF PL W ln SC n) n (Sc_marks SC n ||| ((1 : Int32) <<< (nI (kN PL W ln SC n) &&& 31))) else msF PL W ln SC n
def skF (PL : PlT) (W : Nat) (ln : Nat → Nat) (SC : ScT) (SK : SkT) : Nat → SkT
  | 0 => SK
  | n + 1 => if fsB PL W ln SC n = true then kpS (skF PL W ln SC SK n) (Sc_tick SC) (nI n) (nI (kN PL W ln SC n)) (bkS PL W ln SC n) (nbS PL W ln SC n) else skF PL W ln SC SK n
section TICK
variable {μ : Prop} {PL : PlT} {W : Nat} {ln : Nat → Nat} {SC : ScT} {MO : MoT} {β : Nat}
theorem kN_lt {w : Nat} : kN PL W ln SC w < 3 := by
  unfold kN
  split
  · decide
  · split <;> decide
theorem ms_at {j : Nat} : ∀ n, n ≤ j → msF PL W ln SC n j = Sc_marks SC j
  | 0, _ => rfl
  | n + 1, h => by
    unfold msF
    split
    · rw [u_ne (by omega)]
      exact ms_at n (by omega)
    · exact ms_at n (by omega)
theorem sk_ok {SK : SkT} (h : SkOK SK) : ∀ n, SkOK (skF PL W ln SC SK n)
  | 0 => h
  | n + 1 => by
    unfold skF
    split
    · exact kp_ok (sk_ok h n) _ _ _ _ _
    · exact sk_ok h n
theorem sk_total {SK : SkT} : ∀ n, Sk_total (skF PL W ln SC SK n) = Sk_total SK + nI (pc (fsB PL W ln SC) n)
  | 0 => by
    show Sk_total SK = Sk_total SK + 0
    rw [Int32.add_zero]
  | n + 1 => by
    have ih := sk_total (SK := SK) n
    show Sk_total (if fsB PL W ln SC n = true then _ else _) = Sk_total SK + nI (pc (fsB PL W ln SC) n + (if fsB PL W ln SC n = true then 1 else 0))
    by_cases c : fsB PL W ln SC n = true
    · rw [if_pos c, if_pos c, ← nI_add, ← Int32.add_assoc, ← ih]
      rfl
    · rw [if_neg c, if_neg c]
      exact ih
theorem norm_ms (hW : W ≤ 8) (h : NormS SC) : ∀ n, n ≤ W → NormS (sSc_marks SC (msF PL W ln SC n)) := by
  obtain ⟨n0, n1, n2, n3, n4, n5, n6, n7⟩ := h
  intro n hn
  refine ⟨n0, n1, n2, n3, ?_, n5, n6, n7⟩
  show Nz 8 (msF PL W ln SC n)
  induction n with
  | zero => exact n4
  | succ n ih =>
    unfold msF
    split
    · exact (ih (by omega)).up (by omega) _
    · exact ih (by omega)
/-- one that is hard does not rest -/
theorem hd_nsl (hP : PlanOK PL W ln) (hS : SceneOK W ln SC) {w : Nat} (hw : w < W) (h : heB PL SC w = true) : slB PL SC w = false := by
  obtain ⟨k, hk, e, hc, hp⟩ := he_at hP hS hw h
  unfold slB kdN
  rw [hp]
  have : ¬ Pl_kinds PL (12 * w + k) = nI 7 := by
    rcases he_kinds hP hw hk hc with ⟨z, -⟩ | ⟨z, -⟩ | ⟨z, -⟩ | ⟨z, -⟩ <;> (rw [z]; decide)
  rw [decide_eq_false this]
  simp
theorem s_kind (h : Sim μ PL W ln SC MO β) {w : Nat} (hw : w < W) (hne : enB SC w = false) : FX10_kindOf MO (nI w) (hdS PL W ln SC) = some (knd PL W ln SC w) := by
  have h8 := h.W8
  have hb := h.2.2.2.2.1
  have hβ := h.2.2.2.2.2
  have hs := h.2.2.2.1
  unfold FX10_kindOf knd anK kN
  simp only [nm]
  rw [m_has _ (show w < 32 by omega), Option.bind_some]
  cases hd : bt (hdS PL W ln SC) w
  · have hu : huB PL W ln SC w = false := by unfold huB; rw [hd]; rfl
    rw [if_pos bI_f, hu, s_soft h hw, Option.bind_some, if_neg (show ¬ (false = true) by decide), Bool.false_or]
    cases hso : soB PL W ln SC w
    · rw [if_pos bI_f, if_neg (show ¬ (false = true) by decide), s_slow h hw, Option.bind_some, Bool.false_or]
      cases hsl : slB PL SC w
      · rw [if_pos bI_f, if_neg (show ¬ (false = true) by decide)]
      · rw [if_neg bI_t, if_pos rfl]
        rfl
    · rw [if_neg bI_t, if_pos rfl, Bool.true_or, if_pos rfl]
      rfl
  · have hh := hd_he h8 hw hd
    have hso : soB PL W ln SC w = false := by unfold soB; rw [hd]; simp
    rw [if_neg bI_t, hso, hd_nsl h.1 h.2.1 hw hh, s_quiet h hw, Option.bind_some, hb, show nI β + 1 = nI (β + 1) from nI_add β 1, ix_nI (by omega) (by decide), nI_clamp (show β + 1 < 2 ^ 31 by omega), hs.1]
    unfold huB quB
    rw [hd, Bool.true_and]
    by_cases c : qt SC w < Sc_window SC
    · rw [if_pos c, decide_eq_true c]
      rfl
    · rw [if_neg c, decide_eq_false c]
      rfl
theorem en_nk (hW : W ≤ 8) {w : Nat} (hw : w < W) (h : enB SC w = true) : anK PL W ln SC w = false := by
  have hh : heB PL SC w = false := by unfold heB; rw [h]; rfl
  have hd : bt (hdS PL W ln SC) w = false := by rw [b_hd hW (by omega), hh]; simp
  unfold anK huB soB slB
  rw [hd, hh, h]
  rfl
theorem sg_or {all : Nat → Int32} (h : SegS True SC all β) {w : Nat} {b : Int32} {g : Nat → Int32} (hw : w < 8) {all' : Nat → Int32} (ho : ∀ i, i < 322 → i ≠ 314 + w → all' (β + i) = all (β + i)) (h1 : all' (β + 314 + w) = all (β + 314 + w) ||| b) : SegS True (sSc_marks SC (upd (Sc_marks SC) w (Sc_marks SC w ||| b))) all' β := by
  have g1 := sg_marks h hw (Sc_marks SC w ||| b)
  refine g1.mv (fun i hi => ?_)
  by_cases c : i = 314 + w
  · subst c
    rw [show β + (314 + w) = β + 314 + w by omega, h1, u_eq rfl, h.2.2.2.2.2.2.2.2.2.2.1 trivial w hw]
  · rw [ho i hi c, u_ne (by omega)]
/-- what a tick leaves as it was -/
def OutA (β : Nat) (all all' : Nat → Int32) : Prop := ∀ j, (j < 948 ∨ 1422 ≤ j) → (j < β ∨ β + 474 ≤ j) → all' j = all j
theorem OutA.tr {a b c : Nat → Int32} (h1 : OutA β a b) (h2 : OutA β b c) : OutA β a c := fun j hj hj' => (h2 j hj hj').trans (h1 j hj hj')
theorem s_stalls (h : Sim True PL W ln SC MO β) (hβ : β + 474 ≤ 948) {SK : SkT} (hK : SegK SK (Mo_all MO) β) : ∃ all', itr (FX10_ticksOnce_53 (hdS PL W ln SC)) ((0 : Int32), MO) = some (sMo_all MO all') ∧ OutA β (Mo_all MO) all' ∧ Sim True PL W ln (sSc_marks SC (msF PL W ln SC W)) (sMo_all MO all') β ∧ SegK (skF PL W ln SC SK W) all' β := by
  have h8 := h.W8
  obtain ⟨e, q1, all', rfl, q2, q3, q4⟩ := itr_inv (f := FX10_ticksOnce_53 (hdS PL W ln SC)) (Q := fun e => ∃ all', e = sMo_all MO all' ∧ OutA β (Mo_all MO) all' ∧ Sim True PL W ln (sSc_marks SC (msF PL W ln SC W)) (sMo_all MO all') β ∧ SegK (skF PL W ln SC SK W) all' β) (fun i t => ∃ all', t = (nI i, sMo_all MO all') ∧ OutA β (Mo_all MO) all' ∧ Sim True PL W ln (sSc_marks SC (msF PL W ln SC i)) (sMo_all MO all') β ∧ SegK (skF PL W ln SC SK i) all' β) W (by
    rintro i t hi ⟨all', rfl, ho, hs, hk⟩
    unfold FX10_ticksOnce_53
    rw [s_workers hs]
    simp only [Option.bind_some]
    by_cases hiW : i < W
    · left
      refine ⟨hiW, ?_⟩
      rw [if_neg (nI_ge hiW (by omega)), s_ended hs hiW]
      simp only [Option.bind_some]
      show ∃ t, (if bI (enB SC i) = 0 then _ else _) = some (Sum.inl t) ∧ _
      have stay : anK PL W ln SC i = false ∨ fsB PL W ln SC i = false → ∃ all2, (nI (i + 1), sMo_all MO all') = (nI (i + 1), sMo_all MO all2) ∧ OutA β (Mo_all MO) all2 ∧ Sim True PL W ln (sSc_marks SC (msF PL W ln SC (i + 1))) (sMo_all MO all2) β ∧ SegK (skF PL W ln SC SK (i + 1)) all2 β := by
        intro hz
        have hf : ¬ fsB PL W ln SC i = true := by
          rcases hz with z | z
          · unfold fsB
            rw [z]
            exact fun y => bft y
          · rw [z]
            decide
        refine ⟨all', rfl, ho, ?_, ?_⟩
        · rw [show msF PL W ln SC (i + 1) = msF PL W ln SC i from if_neg hf]
          exact hs
        · rw [show skF PL W ln SC SK (i + 1) = skF PL W ln SC SK i from if_neg hf]
          exact hk
      cases he : enB SC i
      · rw [if_pos bI_f]
        have hkd := s_kind hs hiW he
        rw [hd_mk] at hkd
        rw [hkd]
        simp only [Option.bind_some]
        have ekd : knd PL W ln (sSc_marks SC (msF PL W ln SC i)) i = knd PL W ln SC i := by
          unfold knd anK kN
          rw [hu_mk, so_mk, sl_mk]
        rw [ekd]
        unfold FX10_ticksOnce_j79 knd
        simp only [nm]
        rw [nI_1]
        cases ha : anK PL W ln SC i
        · rw [if_neg (show ¬ (false = true) by decide), if_pos rfl]
          exact ⟨_, rfl, stay (Or.inl ha)⟩
        · have hb := hs.2.2.2.2.1
          have k3 := kN_lt (PL := PL) (W := W) (ln := ln) (SC := SC) (w := i)
          rw [if_pos rfl, if_neg (nI_m1 _ (by omega)), hb, show nI β + 314 + nI i = nI β + nI 314 + nI i from rfl, M_ix (by omega), M_cl (by omega), hs.2.2.2.1.2.2.2.2.2.2.2.2.2.2.1 trivial i (by omega)]
          show ∃ t, (FX10_has (msF PL W ln SC i i) (nI (kN PL W ln SC i))).bind _ = _ ∧ _
          rw [ms_at i (Nat.le_refl _), m_has _ (by omega)]
          simp only [Option.bind_some]
          cases hm : bt (Sc_marks SC i) (kN PL W ln SC i)
          · have hf : fsB PL W ln SC i = true := by unfold fsB; rw [ha, hm]; rfl
            rw [if_pos bI_f]
            obtain ⟨all2, s1, s2, s3, s4⟩ := s_keep hs hβ hk hiW k3
            rw [hd_mk] at s1
            rw [bk_mk, nb_mk] at s4
            rw [s1]
            simp only [Option.bind_some]
            refine ⟨_, rfl, all2, rfl, ho.tr (fun j j1 j2 => s2 j j1 (by omega) (by omega)), ?_, ?_⟩
            · have hsg := sg_or hs.2.2.2.1 (w := i) (b := (1 : Int32) <<< (nI (kN PL W ln SC i) &&& 31)) (g := Sc_marks SC) (by omega) (all' := all2) (fun x hx hx' => s2 _ (by omega) (by omega) (by omega)) s3
              have em : msF PL W ln SC (i + 1) = upd (msF PL W ln SC i) i (msF PL W ln SC i i ||| ((1 : Int32) <<< (nI (kN PL W ln SC i) &&& 31))) := by
                rw [ms_at i (Nat.le_refl _)]
                exact if_pos hf
              rw [em]
              exact ⟨hs.1, ⟨hs.2.1.1, hs.2.1.2⟩, hs.2.2.1.mv hs.1 (fun x hx => s2 _ (by omega) (by omega) (by omega)), hsg, hs.2.2.2.2.1, hs.2.2.2.2.2⟩
            · rw [show skF PL W ln SC SK (i + 1) = kpS (skF PL W ln SC SK i) (Sc_tick SC) (nI i) (nI (kN PL W ln SC i)) (bkS PL W ln SC i) (nbS PL W ln SC i) from if_pos hf]
              exact s4
          · rw [if_neg bI_t]
            exact ⟨_, rfl, stay (Or.inr (by unfold fsB; rw [ha, hm]; rfl))⟩
      · rw [if_neg bI_t]
        unfold FX10_ticksOnce_j79
        simp only [nm]
        rw [nI_1, if_pos trivial]
        exact ⟨_, rfl, stay (Or.inl (en_nk h8 hiW he))⟩
    · right
      have : i = W := by omega
      subst this
      rw [if_pos (nI_le (Nat.le_refl _) (by omega))]
      exact ⟨_, rfl, all', rfl, ho, hs, hk⟩) (s := ((0 : Int32), MO)) ⟨Mo_all MO, rfl, fun _ _ _ => rfl, h, hK⟩
  exact ⟨all', q1, q2, q3, q4⟩
end TICK
section TICK2
variable {μ : Prop} {PL : PlT} {W : Nat} {ln : Nat → Nat} {SC : ScT} {MO : MoT} {β : Nat}
/-- the reference's tick, over what the class's scene has become -/
theorem s_tick (h : Sim True PL W ln SC MO β) (hβ : β + 474 ≤ 948) {SK : SkT} (hK : SegK SK (Mo_all MO) β) : ∃ SC1 all', FX3_pass SC PL = some SC1 ∧ SceneOK W ln SC1 ∧ NormS SC1 ∧ FX10_ticksOnce MO = some (sMo_all MO all') ∧ OutA β (Mo_all MO) all' ∧ Sim True PL W ln (sSc_marks SC1 (msF PL W ln SC1 W)) (sMo_all MO all') β ∧ SegK (skF PL W ln SC1 SK W) all' β := by
  have hb := h.2.2.2.2.1
  obtain ⟨SC1, a1, p1, p2, p3, p4⟩ := tick_sim h
  have hK1 : SegK SK a1 β := by
    obtain ⟨k0, k1, k2, k3⟩ := hK
    exact ⟨k0, (p4 _ (by omega)).trans k1, (p4 _ (by omega)).trans k2, fun i hi j hj => (p4 _ (by omega)).trans (k3 i hi j hj)⟩
  obtain ⟨all', s1, s2, s3, s4⟩ := s_stalls p3 hβ hK1
  refine ⟨SC1, all', p1, p3.2.1, p3.2.2.2.1.2.2.2.2.2.2.2.2.2.2.2, ?_, fun j j1 j2 => (s2 j j1 j2).trans (p4 j (by omega)), s3, s4⟩
  unfold FX10_ticksOnce
  simp only [nm]
  rw [hb, show nI β + 207 = nI (β + 207) from nI_add β 207, ix_nI (by omega) (by decide), ix_nI (by omega) (by decide), nI_clamp (show β + 207 < 2 ^ 31 by omega), h.2.2.2.1.2.2.1]
  refine bd_of p2 ?_
  refine bd_of (s_hard p3) ?_
  refine bd_of s1 ?_
  rfl
/-! the class -/
theorem c_kind2 {VW : VwT} (hW : W ≤ 8) (hV : ViewOK PL W ln SC VW) {w : Nat} (hw : w < W) : FX7_stallKind VW (nI w) = some (knd PL W ln SC w) := by
  unfold FX7_stallKind knd anK kN
  rw [hV.2.2.2.2.2.2.2.1, hV.2.2.2.2.2.1, hV.2.2.2.2.2.2.1, c_has _ (show w < 8 by omega), c_has _ (show w < 8 by omega), c_has _ (show w < 8 by omega), b_mk _ W (by omega) w (by omega), b_mk _ W (by omega) w (by omega), b_mk _ W (by omega) w (by omega), decide_eq_true hw, Bool.true_and, Bool.true_and, Bool.true_and]
  simp only [Option.bind_some]
  cases huB PL W ln SC w
  · rw [if_pos bI_f]
    cases soB PL W ln SC w
    · rw [if_pos bI_f]
      cases slB PL SC w
      · rw [if_pos bI_f]
        rfl
      · rw [if_neg bI_t]
        rfl
    · rw [if_neg bI_t]
      rfl
  · rw [if_neg bI_t]
    rfl
theorem c_marks {VW : VwT} (hP : PlanOK PL W ln) (hV : ViewOK PL W ln SC VW) : itr (FX9_markStalls_35 PL VW) ((0 : Int32), (0 : Int32), SC) = some (mk (fsB PL W ln SC) W, sSc_marks SC (msF PL W ln SC W)) := by
  have h8 := hP.2.1
  refine itr_chain (fun i => (mk (fsB PL W ln SC) i, nI i, sSc_marks SC (msF PL W ln SC i))) W (fun i hi => ?_) ?_
  · unfold FX9_markStalls_35
    simp only [nm]
    rw [hP.1, if_neg (nI_ge hi (by omega)), c_kind2 h8 hV hi, nI_1]
    simp only [Option.bind_some]
    unfold knd
    cases ha : anK PL W ln SC i
    · have hf : fsB PL W ln SC i = false := by unfold fsB; rw [ha]; rfl
      rw [if_neg (show ¬ (false = true) by decide), if_pos rfl, ← mk_f hf, show msF PL W ln SC (i + 1) = msF PL W ln SC i from if_neg (by rw [hf]; decide)]
    · have k3 := kN_lt (PL := PL) (W := W) (ln := ln) (SC := SC) (w := i)
      rw [if_pos rfl, if_neg (nI_m1 _ (by omega))]
      unfold FX3_mark
      simp only [nm]
      rw [ix_nI (by omega) (by decide), nI_clamp (show i < 2 ^ 31 by omega), show Sc_marks (sSc_marks SC (msF PL W ln SC i)) i = Sc_marks SC i from ms_at i (Nat.le_refl _)]
      cases hm : bt (Sc_marks SC i) (kN PL W ln SC i)
      · have hf : fsB PL W ln SC i = true := by unfold fsB; rw [ha, hm]; rfl
        rw [if_neg (fun z => by rw [(b_has1 _ (by omega)).mp z] at hm; exact absurd hm (by decide)), ix_nI (by omega) (by decide), ix_nI (by omega) (by decide)]
        simp only [Option.bind_some]
        rw [if_neg bI_t, mk_t hf, show msF PL W ln SC (i + 1) = upd (msF PL W ln SC i) i (Sc_marks SC i ||| ((1 : Int32) <<< (nI (kN PL W ln SC i) &&& 31))) from if_pos hf]
      · have hf : fsB PL W ln SC i = false := by unfold fsB; rw [ha, hm]; rfl
        rw [if_pos ((b_has1 _ (by omega)).mpr hm)]
        simp only [Option.bind_some]
        rw [if_pos bI_f, ← mk_f hf, show msF PL W ln SC (i + 1) = msF PL W ln SC i from if_neg (by rw [hf]; decide)]
  · unfold FX9_markStalls_35
    rw [hP.1, if_pos (nI_le (Nat.le_refl _) (by omega))]
theorem c_keeps {VW : VwT} {TR : TrT} {SK : SkT} {f : Nat → Int32} {WD : WdT} (hP : PlanOK PL W ln) (hV : ViewOK PL W ln SC VW) (hF : FreesOK PL W ln (sSc_marks SC f) TR) (hK : SkOK SK) : FX9_keepStalls WD PL (sSc_marks SC f) SK TR VW (mk (fsB PL W ln SC) W) = some (skF PL W ln SC SK W) := by
  have h8 := hP.2.1
  have q : itr (FX9_keepStalls_10 PL (sSc_marks SC f) TR VW (mk (fsB PL W ln SC) W)) ((0 : Int32), SK) = some (skF PL W ln SC SK W) := by
    refine itr_chain (fun i => (nI i, skF PL W ln SC SK i)) W (fun i hi => ?_) ?_
    · unfold FX9_keepStalls_10
      simp only [nm]
      have hb := c_block h8 hF (view_mk hV) hi
      rw [bk_mk] at hb
      rw [hP.1, if_neg (nI_ge hi (by omega)), c_has _ (show i < 8 by omega), b_mk _ W (by omega) i (by omega), decide_eq_true hi, Bool.true_and, hb, c_kind2 h8 hV hi, c_nb h8 hV hi, nI_1]
      simp only [Option.bind_some]
      cases hf : fsB PL W ln SC i
      · rw [if_pos bI_f, show skF PL W ln SC SK (i + 1) = skF PL W ln SC SK i from if_neg (by rw [hf]; decide)]
      · have ha : anK PL W ln SC i = true := by
          unfold fsB at hf
          cases z : anK PL W ln SC i
          · rw [z] at hf
            exact bft hf
          · rfl
        rw [if_neg bI_t, c_keep (sk_ok hK i)]
        simp only [Option.bind_some]
        rw [show skF PL W ln SC SK (i + 1) = kpS (skF PL W ln SC SK i) (Sc_tick SC) (nI i) (nI (kN PL W ln SC i)) (bkS PL W ln SC i) (nbS PL W ln SC i) from if_pos hf]
        unfold knd
        rw [if_pos ha]
    · unfold FX9_keepStalls_10
      rw [hP.1, if_pos (nI_le (Nat.le_refl _) (by omega))]
  unfold FX9_keepStalls
  rw [q]
  rfl
theorem fs_ext {g : Bool} (h : ∀ w, w < W → fsB PL W ln SC w = false) : msF PL W ln SC W = Sc_marks SC ∧ (∀ SK, skF PL W ln SC SK W = SK) ∧ mk (fsB PL W ln SC) W = 0 ∧ pc (fsB PL W ln SC) W = 0 := by
  have key : ∀ n, n ≤ W → msF PL W ln SC n = Sc_marks SC ∧ (∀ SK, skF PL W ln SC SK n = SK) ∧ mk (fsB PL W ln SC) n = 0 ∧ pc (fsB PL W ln SC) n = 0 := by
    intro n
    induction n with
    | zero => exact fun _ => ⟨rfl, fun _ => rfl, rfl, rfl⟩
    | succ n ih =>
      intro hn
      have hf := h n (by omega)
      have hf' : ¬ fsB PL W ln SC n = true := by rw [hf]; decide
      obtain ⟨i1, i2, i3, i4⟩ := ih (by omega)
      refine ⟨(if_neg hf').trans i1, fun SK => (if_neg hf').trans (i2 SK), (mk_f hf).symm.trans i3, ?_⟩
      show pc (fsB PL W ln SC) n + (if fsB PL W ln SC n = true then 1 else 0) = 0
      rw [if_neg hf', i4]
  exact key W (Nat.le_refl _)
theorem c_any (hP : PlanOK PL W ln) (hS : SceneOK W ln SC) : FX3_anyQuiet SC PL = some true ∨ (FX3_anyQuiet SC PL = some false ∧ ∀ w, w < W → enB SC w = true ∨ qt SC w < Sc_window SC) := by
  have h8 := hP.2.1
  obtain ⟨e, q1, q2⟩ := itr_inv (f := FX3_anyQuiet_2 SC PL) (Q := fun e => e = Sum.inr () ∨ (e = Sum.inl () ∧ ∀ w, w < W → enB SC w = true ∨ qt SC w < Sc_window SC)) (fun i t => t = nI i ∧ ∀ w, w < i → enB SC w = true ∨ qt SC w < Sc_window SC) W (by
    rintro i t hi ⟨rfl, hw⟩
    unfold FX3_anyQuiet_2
    simp only [nm]
    rw [hP.1, nI_1]
    by_cases hiW : i < W
    · rw [if_neg (nI_ge hiW (by omega)), ix_nI (by omega) (by decide), nI_clamp (by omega), quiet_eq (show i < 8 by omega)]
      simp only [Option.bind_some]
      by_cases c : Sc_place SC i = -1
      · left
        rw [if_pos c]
        refine ⟨hiW, _, rfl, rfl, fun w hw' => ?_⟩
        by_cases ew : w = i
        · subst ew
          exact Or.inl (en_t c)
        · exact hw w (by omega)
      · rw [if_neg c]
        by_cases y : qt SC i < Sc_window SC
        · left
          rw [if_pos y]
          refine ⟨hiW, _, rfl, rfl, fun w hw' => ?_⟩
          by_cases ew : w = i
          · subst ew
            exact Or.inr y
          · exact hw w (by omega)
        · right
          rw [if_neg y]
          exact ⟨_, rfl, Or.inl rfl⟩
    · right
      have : i = W := by omega
      subst this
      rw [if_pos (nI_le (Nat.le_refl _) (by omega))]
      exact ⟨_, rfl, Or.inr ⟨rfl, hw⟩⟩) (s := (0 : Int32)) ⟨rfl, fun w hw => by omega⟩
  unfold FX3_anyQuiet
  rw [q1]
  rcases q2 with rfl | ⟨rfl, q3⟩
  · exact Or.inl rfl
  · exact Or.inr ⟨rfl, q3⟩
theorem none_fresh (hW : W ≤ 8) (hS : SceneOK W ln SC) (h : ∀ w, w < W → enB SC w = true ∨ qt SC w < Sc_window SC) : ∀ w, w < W → fsB PL W ln SC w = false := by
  intro w hw
  rcases h w hw with e | e
  · unfold fsB
    rw [en_nk hW hw e]
    rfl
  · have hq : quB SC w = false := by unfold quB; rw [decide_eq_true e]; rfl
    have hs : qt SC w < Sc_window SC + Sc_grace SC := by
      obtain ⟨-, -, ⟨a, ha, ea⟩, b, hb, eb⟩ := hS
      rw [ea] at e
      rw [ea, eb, nI_add, Int32.lt_iff_toInt_lt, nI_toInt (by omega)]
      rw [Int32.lt_iff_toInt_lt, nI_toInt (by omega)] at e
      omega
    have ha : anK PL W ln SC w = false := by
      unfold anK huB soB slB
      rw [hq, decide_eq_true hs]
      simp
    unfold fsB
    rw [ha]
    rfl
theorem c_markStalls {WD : WdT} (VW : VwT) (hP : PlanOK PL W ln) (hR : ReachOK PL W ln) (hS : SceneOK W ln SC) : ∃ VW', FX9_markStalls WD PL VW SC = some (mk (fsB PL W ln SC) W, VW', sSc_marks SC (msF PL W ln SC W)) ∧ (ViewOK PL W ln SC VW' ∨ mk (fsB PL W ln SC) W = 0 ∧ (∀ w, w < W → fsB PL W ln SC w = false)) := by
  have h8 := hP.2.1
  unfold FX9_markStalls
  rcases c_any hP hS with a | ⟨a, a2⟩
  · obtain ⟨VW', l1, l2⟩ := c_look VW hP hR hS
    rw [a, Option.bind_some, if_neg bI_t, l1, Option.bind_some, c_marks hP l2]
    exact ⟨VW', rfl, Or.inl l2⟩
  · have hn := none_fresh (PL := PL) h8 hS a2
    obtain ⟨f1, f2, f3, f4⟩ := fs_ext (g := true) hn
    rw [a, Option.bind_some, if_pos bI_f, f1, f3]
    exact ⟨VW, rfl, Or.inr ⟨rfl, hn⟩⟩
theorem pc_in {P : Nat → Bool} (W : Nat) : ∀ d, pc (fun k => decide (k < W) && P k) (W + d) = pc P W
  | 0 => pc_congr (fun k hk => by rw [decide_eq_true (show k < W by omega)]; rfl)
  | d + 1 => by
    show pc (fun k => decide (k < W) && P k) (W + d) + (if (decide (W + d < W) && P (W + d)) = true then 1 else 0) = _
    rw [decide_eq_false (by omega), Bool.false_and, if_neg (by decide)]
    exact pc_in W d
theorem c_count {P : Nat → Bool} (hW : W ≤ 8) : FJ6_bitCount_0f7a4 (mk P W) = some (nI (pc P W)) := by
  rw [c_bits (sm_mk hW), pc_congr (P := bt (mk P W)) (Q := fun k => decide (k < W) && P k) (fun k hk => b_mk P W (by omega) k (by omega))]
  have := pc_in (P := P) W (8 - W)
  rw [show W + (8 - W) = 8 by omega] at this
  rw [this]
theorem mk_0 {P : Nat → Bool} (hW : W ≤ 8) (h : mk P W = 0) : ∀ w, w < W → P w = false := fun w hw => by
  have := b_mk P W (by omega) w (by omega)
  rw [h, b_0, decide_eq_true hw, Bool.true_and] at this
  exact this.symm
theorem c_passTick {WD : WdT} {SC1 SCt : ScT} {SK : SkT} {TR : TrT} {VWt VW : VwT} (hP : PlanOK PL W ln) (hR : ReachOK PL W ln) (hp : FX3_pass SC PL = some SC1) (hS : SceneOK W ln SC1) (hN : NormS SC1) (hNt : NormS SCt) (hK : SkOK SK) : ∃ TR' SCt' VWt' VW', FX9_passTick WD PL SC SK TR SCt VWt VW = some (nI (pc (fsB PL W ln SC1) W), sSc_marks SC1 (msF PL W ln SC1 W), skF PL W ln SC1 SK W, TR', SCt', VWt', VW') ∧ NormS SCt' := by
  have h8 := hP.2.1
  unfold FX9_passTick
  rw [hp, Option.bind_some]
  obtain ⟨VW', m1, m2⟩ := c_markStalls (WD := WD) VW hP hR hS
  rw [m1, Option.bind_some]
  by_cases c : mk (fsB PL W ln SC1) W = 0
  · obtain ⟨f1, f2, f3, f4⟩ := fs_ext (g := true) (mk_0 h8 c)
    rw [if_pos c, c_count h8, f2 SK]
    exact ⟨_, _, _, _, rfl, hNt⟩
  · rcases m2 with m2 | ⟨m2, -⟩
    · rw [if_neg c]
      obtain ⟨TR', SC', VWt', w1, w2, w3⟩ := c_weigh (TR := TR) (SCt := SCt) (VWt := VWt) hP hR (SC := sSc_marks SC1 (msF PL W ln SC1 W)) ⟨hS.1, hS.2⟩ (norm_ms h8 hN W (Nat.le_refl _)) hNt (view_mk m2)
      refine ⟨TR', SC', VWt', VW', ?_, w3⟩
      refine bd_of w1 ?_
      refine bd_of (c_keeps hP m2 w2 hK) ?_
      refine bd_of (c_count h8) ?_
      rfl
    · exact absurd m2 c
end TICK2
