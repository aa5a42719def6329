/-! ===== a line on both sides ===== -/
def KeepR (MO0 MO : MoT) : Prop := Mo_tape MO = Mo_tape MO0 ∧ Mo_isImage MO = Mo_isImage MO0 ∧ Mo_taped MO = Mo_taped MO0 ∧ Mo_undos MO = Mo_undos MO0 ∧ Mo_b MO = Mo_b MO0 ∧ Mo_size0 MO = Mo_size0 MO0 ∧ ∀ j, (j < 1422 ∨ 1896 ≤ j) → Mo_all MO j = Mo_all MO0 j
def Safe (PL : PlT) : Prop := (∃ W, W ≤ 8 ∧ Pl_workers PL = nI W) ∧ (∀ w, w < 8 → ∃ l, l ≤ 12 ∧ Pl_lengths PL w = nI l) ∧ NormP PL
def StepO (κ n : Int32) : Prop := (κ = nI 0 ∧ ∃ x, x ≤ 50 ∧ n = nI x) ∨ (κ = nI 7 ∧ ∃ x, x ≤ 99 ∧ n = nI x) ∨ ((κ = nI 1 ∨ κ = nI 2) ∧ ∃ x, x < 6 ∧ n = nI x) ∨ ((κ = nI 3 ∨ κ = nI 4) ∧ ∃ x, x < 4 ∧ n = nI x) ∨ ((κ = nI 5 ∨ κ = nI 6) ∧ ∃ x, x < 8 ∧ n = nI x) ∨ ((κ = nI 8 ∨ κ = nI 9) ∧ n = -1)
def nmB (ki : Nat → Int32) (w k : Nat) : Bool := decide (ki (12 * w + k) = nI 5 ∨ ki (12 * w + k) = nI 6)
def rcN (ki : Nat → Int32) (w k : Nat) : Nat := pc (nmB ki w) k
def ttN (ki : Nat → Int32) (ln : Nat → Nat) : Nat → Nat
  | 0 => 0
  | w + 1 => ttN ki ln w + rcN ki w (ln w)
def NamR (sp ki nu : Nat → Int32) (MO : MoT) (ln : Nat → Nat) : Prop := Mo_namedMany MO = nI (ttN ki ln 8) ∧ ∀ w, w < 8 → ∀ k, k < ln w → nmB ki w k = true → Mo_named MO (ttN ki ln w + rcN ki w k) = nu (12 * w + k) ∧ Mo_namedBy MO (ttN ki ln w + rcN ki w k) = nI w ∧ Mo_namedAt MO (ttN ki ln w + rcN ki w k) = sp (12 * w + k)
def Sy (RD : RdT) (PL : PlT) (MO : MoT) (ln : Nat → Nat) : Prop := (∀ w, w < 8 → Pl_lengths PL w = nI (ln w) ∧ ln w ≤ 12) ∧ (∀ w, w < 8 → ∀ k, k < ln w → Mo_all MO (1437 + 12 * w + k) = Pl_kinds PL (12 * w + k) ∧ Mo_all MO (1533 + 12 * w + k) = Pl_numbers PL (12 * w + k) ∧ StepO (Pl_kinds PL (12 * w + k)) (Pl_numbers PL (12 * w + k))) ∧ (∀ p, p < 4 → Mo_all MO (1425 + p) = Pl_rooms PL p) ∧ (Mo_all MO 1423 = Pl_window PL ∧ ∃ x, x ≤ 50 ∧ Pl_window PL = nI x) ∧ (Mo_all MO 1424 = Pl_grace PL ∧ ∃ x, x ≤ 50 ∧ Pl_grace PL = nI x) ∧ (∀ i, 207 ≤ i → i < 474 → Mo_all MO (1422 + i) = fV i) ∧ NamR (Rd_spots RD) (Pl_kinds PL) (Pl_numbers PL) MO ln
def MdL (PL : PlT) (MO : MoT) (ln : Nat → Nat) (W : Nat) : Prop := W ≤ 8 ∧ Pl_workers PL = nI W ∧ Mo_all MO 1422 = nI W ∧ (∀ w, w < 8 → Mo_all MO (1429 + w) = nI (ln w)) ∧ (∀ w, w < W → 1 ≤ ln w) ∧ (∀ w, W ≤ w → w < 8 → ln w = 0)
def MdW (PL : PlT) (MO : MoT) (ln : Nat → Nat) (W : Nat) : Prop := W < 8 ∧ Pl_workers PL = nI (W + 1) ∧ Mo_all MO 1422 = nI W ∧ (∀ w, w < 8 → Mo_all MO (1429 + w) = nI (if w = W then 0 else ln w)) ∧ (∀ w, w < W → 1 ≤ ln w) ∧ (∀ w, W < w → w < 8 → ln w = 0)
def Inv0 (MO0 : MoT) (RD : RdT) (PL : PlT) (MO : MoT) (i s : Nat) : Prop := i ≤ s ∧ Mo_faultKind MO = 0 ∧ KeepR MO0 MO ∧ FaultR RD MO s ∧ Safe PL ∧ (∃ nm, Mo_namedMany MO = nI nm ∧ 2 * nm ≤ s) ∧ ∃ Wm, Wm ≤ 8 ∧ Mo_all MO 1422 = nI Wm
def InvL (MO0 : MoT) (RD : RdT) (PL : PlT) (MO : MoT) (i s : Nat) : Prop := Inv0 MO0 RD PL MO i s ∧ (Rd_fault RD = 0 → ∃ W ln, Sy RD PL MO ln ∧ MdL PL MO ln W)
def Bad (MO0 : MoT) (RD : RdT) (MO : MoT) : Prop := Rd_fault RD = 1 ∧ Mo_faultKind MO = 1 ∧ Mo_faultPlace MO = Rd_spot RD ∧ KeepR MO0 MO
noncomputable def tlM (MO : MoT) : Option MoT := (FX10_isGood MO).bind fun r11 => if bI r11 = 0 then some MO else (FX10_hasSign MO 59).bind fun r13 => if bI r13.1 = 0 then (FX10_wrong r13.2).bind fun r15 => some r15 else some r13.2
/-- how a line, or its rest, ends -/
def LineRes (N : Nat) (TP : TpT) (MO0 : MoT) (st : Int32) (i : Nat) (RD : RdT) (PL : PlT) (r : Option MoT) (s : Nat) : Prop := (∃ RDf PLf MO', itr (FX2_read_29 TP) (st, 1, nI i, RD, PL) = some (RDf, PLf) ∧ NormP PLf ∧ r = some MO' ∧ Bad MO0 RDf MO') ∨ ∃ i' RD' PL' MO' t t' v v' s' e', itr (FX2_read_29 TP) (st, 1, nI i, RD, PL) = itr (FX2_read_29 TP) (0, 1, nI i', RD', PL') ∧ r = some MO' ∧ At N TP RD' MO' t t' v v' s' e' ∧ InvL MO0 RD' PL' MO' i' s' ∧ s < s'
theorem u_nt {f : Nat → Int32} {i j : Nat} {v x : Int32} (h : j ≠ i) (hy : f j = x) : upd f i v j = x := (u_ne h).trans hy
theorem u_et {f : Nat → Int32} {i : Nat} {v x : Int32} (hy : v = x) : upd f i v i = x := (u_eq rfl).trans hy
section LINE
variable {C : Nat → Nat} {N : Nat} {TP : TpT} {MO0 MO : MoT} {RD : RdT} {PL : PlT}
theorem KeepR.ref (h : KeepR MO0 MO) (hM : RefM C N MO0) : RefM C N MO := ⟨h.2.2.2.2.2.1.trans hM.1, fun i hi => by rw [h.1]; exact hM.2 i hi⟩
theorem LineRes.go {st st' : Int32} {i i' s : Nat} {RD' : RdT} {PL' : PlT} {r : Option MoT} (h : itr (FX2_read_29 TP) (st, 1, nI i, RD, PL) = itr (FX2_read_29 TP) (st', 1, nI i', RD', PL')) {s' : Nat} (hs : s ≤ s') (hl : LineRes N TP MO0 st' i' RD' PL' r s') : LineRes N TP MO0 st i RD PL r s := by
  rcases hl with ⟨RDf, PLf, MO', a1, a2⟩ | ⟨i2, RD2, PL2, MO2, t, t', v, v', s2, e2, a1, a2, a3, a4, a5⟩
  · exact Or.inl ⟨RDf, PLf, MO', h.trans a1, a2⟩
  · exact Or.inr ⟨i2, RD2, PL2, MO2, t, t', v, v', s2, e2, h.trans a1, a2, a3, a4, by omega⟩
theorem tl_bad (h : Mo_faultKind MO = 1) : tlM MO = some MO := by
  unfold tlM
  rw [good_f h, Option.bind_some, if_pos bI_f]
theorem bad_keep {x : Int32} (h : KeepR MO0 MO) : KeepR MO0 (bdM MO x) := h
theorem tail_both (hT : TapM C N TP) (hM : RefM C N MO0) {st : Int32} {i s e : Nat} {t t' v : Int32} {v' : Int64} (hA : At N TP RD MO t t' v v' s e) (hI : InvL MO0 RD PL MO i s) (hst : st = 3 ∨ (st = 4 ∧ ¬ t = 4)) : LineRes N TP MO0 st i RD PL (tlM MO) s := by
  obtain ⟨⟨j1, j2, j3, j4, j5, j6, j7⟩, jS⟩ := hI
  have hN := hT.1
  have hle := hA.2.2.2.2.2.le
  have hst0 : ¬ st = 0 := by rcases hst with z | ⟨z, -⟩ <;> (rw [z]; decide)
  have ct : tlM MO = if t' = 3 ∧ v' = lN 59 then FX10_takes MO else some (bdM MO (nI s)) := by
    unfold tlM
    rw [good_t j2, Option.bind_some, if_neg bI_t, show (59 : Int32) = nI 59 from rfl, s_sign j2 hA (by decide)]
    by_cases c : t' = 3 ∧ v' = lN 59
    · rw [if_pos c, if_pos c]
      generalize FX10_takes MO = z
      cases z with
      | none => rfl
      | some y =>
        simp only [Option.bind_some]
        rw [if_neg bI_t]
    · rw [if_neg c, if_neg c, Option.bind_some, if_pos bI_f, wrong_eq j2, Option.bind_some, hA.2.2.1]
  by_cases c : t = 3
  · have c' : t' = 3 ∧ v' = lN 59 := by
      rcases hA.2.2.2.2.2.sign with ⟨-, z1, z2⟩ | ⟨z, -⟩ | ⟨z, -⟩
      · exact ⟨z1, z2⟩
      · rw [c] at z
        exact absurd z (by decide)
      · exact absurd c z
    have hlt := hA.2.2.2.2.2.lt (by rw [c]; decide)
    obtain ⟨t2, t2', v2, v2', s2, e2, n1, n2, n3⟩ := next_at (RD := rdT RD t (nI s) v (nI e)) hT (j3.ref hM) hle.2 rfl hA.2.2.2.2.1
    have hf : FX2_follow (rdT RD t (nI s) v (nI e)) PL st = some (0, rdT RD t (nI s) v (nI e), PL) := by
      unfold FX2_follow
      rcases hst with rfl | ⟨rfl, z⟩
      · rw [if_neg (by decide), if_neg (by decide), if_neg (by decide), if_pos rfl]
        exact if_pos c
      · rw [if_neg (by decide), if_neg (by decide), if_neg (by decide), if_neg (by decide), if_pos rfl]
        exact (if_neg z).trans (if_pos c)
    refine Or.inr ⟨i + 1, _, PL, _, t2, t2', v2, v2', s2, e2, r_go rfl (by omega) hA.1 (fun z => hst0 z.2) hf (by decide), (ct.trans (if_pos c')).trans n1, n3, ⟨⟨by omega, j2, j3, ?_, j5, ?_, j7⟩, ?_⟩, by omega⟩
    · exact j4.up (by omega)
    · obtain ⟨nm, y1, y2⟩ := j6
      exact ⟨nm, y1, by omega⟩
    · exact jS
  · have c' : ¬ (t' = 3 ∧ v' = lN 59) := by
      rcases hA.2.2.2.2.2.sign with ⟨z, -⟩ | ⟨-, z1, z2⟩ | ⟨-, -, z⟩
      · exact absurd z c
      · rw [z2]
        exact fun y => absurd y.2 (by decide)
      · exact fun y => z y.1
    have hf : FX2_follow (rdT RD t (nI s) v (nI e)) PL st = some (-1, rdT RD t (nI s) v (nI e), PL) := by
      unfold FX2_follow
      rcases hst with rfl | ⟨rfl, z⟩
      · rw [if_neg (by decide), if_neg (by decide), if_neg (by decide), if_pos rfl]
        exact if_neg c
      · rw [if_neg (by decide), if_neg (by decide), if_neg (by decide), if_neg (by decide), if_pos rfl]
        exact (if_neg z).trans (if_neg c)
    exact Or.inl ⟨_, PL, _, r_bad rfl (by omega) hA.1 (fun z => hst0 z.2) hf rfl, j5.2.2, ct.trans (if_neg c'), rfl, rfl, rfl, j3⟩
/-- which word it is, none if it is none -/
def wiO (t : Int32) (idx : Option Nat) : Option Nat := if t = 1 then idx else none
theorem at_word {s e : Nat} {t t' v : Int32} {v' : Int64} (hA : At N TP RD MO t t' v v' s e) : ∃ wi : Option Nat, (∀ k, wi = some k → k < 14) ∧ (t = 1 → v = oI wi) ∧ (¬ t = 1 → wi = none) ∧ (t' = 1 ↔ t = 1) ∧ ∀ k, k < 14 → ((t' = 1 ∧ v' = lN (csK k)) ↔ wi = some k) := by
  rcases hA.2.2.2.2.2.word with ⟨z1, z2, idx, z3, z4⟩ | ⟨z1, z2⟩
  · exact ⟨idx, z4.1, fun _ => z3, fun z => absurd z1 z, ⟨fun _ => z1, fun _ => z2⟩, fun k hk => ⟨fun y => (z4.2 k hk).mp y.2, fun y => ⟨z2, (z4.2 k hk).mpr y⟩⟩⟩
  · exact ⟨none, fun k hk => (by cases hk), fun z => absurd z z1, fun _ => rfl, ⟨fun z => absurd z z2, fun z => absurd z z1⟩, fun k hk => ⟨fun y => absurd y.1 z2, fun y => (by cases y)⟩⟩
theorem line_ref {s e : Nat} {t t' v : Int32} {v' : Int64} {wi : Option Nat} (hg : Mo_faultKind MO = 0) (hA : At N TP RD MO t t' v v' s e) (hw : ∀ k, k < 14 → ((t' = 1 ∧ v' = lN (csK k)) ↔ wi = some k)) : FX10_readsLine MO = if wi = some 10 then (FX10_takes MO).bind (fun r => (FX10_numeral r 1 50).bind fun r39 => tlM (sMo_all r39.2 (upd (Mo_all r39.2) 1423 r39.1))) else if wi = some 11 then (FX10_takes MO).bind (fun r => (FX10_numeral r 0 50).bind fun r39 => tlM (sMo_all r39.2 (upd (Mo_all r39.2) 1424 r39.1))) else if wi = some 12 then (FX10_takes MO).bind (fun r => (FX10_numeral r 0 3).bind fun r22 => (FX10_numeral r22.2 1 9).bind fun r23 => ix (1425 + r22.1) 9519 (tlM (sMo_all r23.2 (upd (Mo_all r23.2) (1425 + r22.1).toNatClampNeg r23.1)))) else if wi = some 13 then (FX10_takes MO).bind (fun r => (FX10_readsWorker r (nI s)).bind tlM) else (FX10_wrong MO).bind tlM := by
  have hw' : ∀ k, k < 14 → FX10_hasWord MO (lN (csK k)) = if wi = some k then (FX10_takes MO).bind (fun r => some (true, r)) else some (false, MO) := fun k hk => by
    rw [s_word hg hA]
    by_cases c : wi = some k
    · rw [if_pos c, if_pos ((hw k hk).mpr c)]
    · rw [if_neg c, if_neg (fun z => c ((hw k hk).mp z))]
  unfold FX10_readsLine
  dsimp only [nm]
  rw [show (335086736 : Int64) = lN (csK 10) from rfl, show (4075196 : Int64) = lN (csK 11) from rfl, show (321926 : Int64) = lN (csK 12) from rfl, show (338358942 : Int64) = lN (csK 13) from rfl, hw' 10 (by decide)]
  by_cases c10 : wi = some 10
  · rw [if_pos c10, if_pos c10]
    generalize FX10_takes MO = z
    cases z with
    | none => rfl
    | some y =>
      simp only [Option.bind_some]
      rw [if_neg bI_t]
      refine congrArg _ (funext fun r39 => ?_)
      refine (ix_nI (n := 1423) (by decide) (by decide) _).trans ?_
      rfl
  rw [if_neg c10, if_neg c10, Option.bind_some, if_pos bI_f]
  dsimp only
  rw [hw' 11 (by decide)]
  by_cases c11 : wi = some 11
  · rw [if_pos c11, if_pos c11]
    generalize FX10_takes MO = z
    cases z with
    | none => rfl
    | some y =>
      simp only [Option.bind_some]
      rw [if_neg bI_t]
      refine congrArg _ (funext fun r39 => ?_)
      refine (ix_nI (n := 1424) (by decide) (by decide) _).trans ?_
      rfl
  rw [if_neg c11, if_neg c11, Option.bind_some, if_pos bI_f]
  dsimp only
  rw [hw' 12 (by decide)]
  by_cases c12 : wi = some 12
  · rw [if_pos c12, if_pos c12]
    generalize FX10_takes MO = z
    cases z with
    | none => rfl
    | some y =>
      simp only [Option.bind_some]
      rw [if_neg bI_t]
      rfl
  rw [if_neg c12, if_neg c12, Option.bind_some, if_pos bI_f]
  dsimp only
  rw [hw' 13 (by decide)]
  by_cases c13 : wi = some 13
  · rw [if_pos c13, if_pos c13]
    generalize FX10_takes MO = z
    cases z with
    | none => rfl
    | some y =>
      simp only [Option.bind_some]
      rw [if_neg bI_t, hA.2.2.1]
      rfl
  rw [if_neg c13, if_neg c13, Option.bind_some, if_pos bI_f]
  rfl
end LINE
