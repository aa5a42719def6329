/-! ===== a step's round in the reference ===== -/
abbrev RT : Type := Option ((Int32 × MoT) ⊕ (MoT ⊕ (Int32 × MoT)))
def InvW (MO0 : MoT) (RD : RdT) (PL : PlT) (MO : MoT) (i s Wm k : Nat) : Prop := Inv0 MO0 RD PL MO i s ∧ Mo_all MO 1422 = nI Wm ∧ Wm ≤ 8 ∧ k ≤ 12 ∧ (Rd_fault RD = 0 → ∃ ln, Sy RD PL MO ln ∧ MdW PL MO ln Wm ∧ ln Wm = k)
def RoundRes (N : Nat) (TP : TpT) (MO0 : MoT) (st : Int32) (i : Nat) (RD : RdT) (PL : PlT) (r : RT) (s Wm : Nat) : Prop := (∃ RDf PLf MO', itr (FX2_read_29 TP) (st, 1, nI i, RD, PL) = some (RDf, PLf) ∧ NormP PLf ∧ (r = some (Sum.inr (Sum.inl MO')) ∨ ∃ k', r = some (Sum.inr (Sum.inr (k', MO')))) ∧ Bad MO0 RDf MO') ∨ (∃ i' RD' PL' MO' k' t t' v v' s' e', itr (FX2_read_29 TP) (st, 1, nI i, RD, PL) = itr (FX2_read_29 TP) (4, 1, nI i', RD', PL') ∧ r = some (Sum.inr (Sum.inr (nI k', MO'))) ∧ At N TP RD' MO' t t' v v' s' e' ∧ InvW MO0 RD' PL' MO' i' s' Wm k' ∧ ¬ t = 4 ∧ s < s' ∧ (Rd_fault RD' = 0 → 1 ≤ k')) ∨ (∃ i' RD' PL' MO' k' t t' v v' s' e', itr (FX2_read_29 TP) (st, 1, nI i, RD, PL) = itr (FX2_read_29 TP) (1, 1, nI i', RD', PL') ∧ r = some (Sum.inl (nI k', MO')) ∧ At N TP RD' MO' t t' v v' s' e' ∧ InvW MO0 RD' PL' MO' i' s' Wm k' ∧ s < s')
noncomputable def sgK (k : Int32) (MO : MoT) : RT := (FX10_hasSign MO 44).bind fun r13 => if bI r13.1 = 0 then some (Sum.inr (Sum.inr (k, r13.2))) else some (Sum.inl (k, r13.2))
noncomputable def wrK (x2 k κ val : Int32) (MO : MoT) : RT := if 12 ≤ k then sgK k MO else if 8 ≤ x2 then sgK k MO else ix (1437 + 12 * x2 + k) 9519 (ix (1533 + 12 * x2 + k) 9519 (sgK (k + 1) (sMo_all MO (upd (upd (Mo_all MO) (1437 + 12 * x2 + k).toNatClampNeg κ) (1533 + 12 * x2 + k).toNatClampNeg val))))
theorem j78_eq {x2 κ : Int32} {st : Int32 × MoT} {MO : MoT} : FX10_readsWorker_j78 x2 st κ MO = (FX10_takes MO).bind fun r10 => (FX10_numberOf r10 κ x2).bind fun r11 => wrK x2 st.1 κ r11.1 r11.2 := rfl
section ROUND
variable {C : Nat → Nat} {N : Nat} {TP : TpT} {MO0 MO : MoT} {RD : RdT} {PL : PlT}
theorem RoundRes.go {st st' : Int32} {i i' s s' Wm : Nat} {RD' : RdT} {PL' : PlT} {r : RT} (h : itr (FX2_read_29 TP) (st, 1, nI i, RD, PL) = itr (FX2_read_29 TP) (st', 1, nI i', RD', PL')) (hs : s ≤ s') (hl : RoundRes N TP MO0 st' i' RD' PL' r s' Wm) : RoundRes N TP MO0 st i RD PL r s Wm := by
  rcases hl with ⟨RDf, PLf, MO', a1, a2⟩ | ⟨i2, RD2, PL2, MO2, k2, t, t', v, v', s2, e2, a1, a2, a3, a4, a5, a6, a7⟩ | ⟨i2, RD2, PL2, MO2, k2, t, t', v, v', s2, e2, a1, a2, a3, a4, a5⟩
  · exact Or.inl ⟨RDf, PLf, MO', h.trans a1, a2⟩
  · exact Or.inr (Or.inl ⟨i2, RD2, PL2, MO2, k2, t, t', v, v', s2, e2, h.trans a1, a2, a3, a4, a5, by omega, a7⟩)
  · exact Or.inr (Or.inr ⟨i2, RD2, PL2, MO2, k2, t, t', v, v', s2, e2, h.trans a1, a2, a3, a4, by omega⟩)
theorem sgK_bad {k : Int32} (h : Mo_faultKind MO = 1) : sgK k MO = some (Sum.inr (Sum.inr (k, MO))) := by
  unfold sgK
  rw [sign_bad h, Option.bind_some, if_pos bI_f]
theorem sgK_eq {t t' v : Int32} {v' : Int64} {s e : Nat} {k : Int32} (hg : Mo_faultKind MO = 0) (hA : At N TP RD MO t t' v v' s e) : sgK k MO = if t = 4 then (FX10_takes MO).bind (fun r => some (Sum.inl (k, r))) else some (Sum.inr (Sum.inr (k, MO))) := by
  unfold sgK
  rw [show (44 : Int32) = nI 44 from rfl, s_sign hg hA (by decide)]
  by_cases c : t = 4
  · have c' : t' = 3 ∧ v' = lN 44 := by
      rcases hA.2.2.2.2.2.sign with ⟨z, -⟩ | ⟨-, z1, z2⟩ | ⟨-, z, -⟩
      · rw [c] at z
        exact absurd z (by decide)
      · exact ⟨z1, z2⟩
      · exact absurd c z
    rw [if_pos c, if_pos c']
    generalize FX10_takes MO = z
    cases z with
    | none => rfl
    | some y =>
      simp only [Option.bind_some]
      rw [if_neg bI_t]
  · have c' : ¬ (t' = 3 ∧ v' = lN 44) := by
      rcases hA.2.2.2.2.2.sign with ⟨-, z1, z2⟩ | ⟨z, -⟩ | ⟨-, -, z⟩
      · rw [z2]
        exact fun y => absurd y.2 (by decide)
      · exact absurd z c
      · exact fun y => z y.1
    rw [if_neg c, if_neg c', Option.bind_some, if_pos bI_f]
theorem end_sign (hT : TapM C N TP) (hM : RefM C N MO0) {i s s0 e k Wm : Nat} {t t' v : Int32} {v' : Int64} (hA : At N TP RD MO t t' v v' s e) (hI : InvW MO0 RD PL MO i s Wm k) (h1 : Rd_fault RD = 0 → 1 ≤ k) (hs : s0 < s) : RoundRes N TP MO0 4 i RD PL (sgK (nI k) MO) s0 Wm := by
  obtain ⟨⟨j1, j2, j3, j4, j5, j6, j7⟩, jW, jw, jk, jS⟩ := hI
  have hN := hT.1
  have hle := hA.2.2.2.2.2.le
  rw [sgK_eq j2 hA]
  by_cases c : t = 4
  · have hlt := hA.2.2.2.2.2.lt (by rw [c]; decide)
    obtain ⟨t2, t2', v2, v2', s2, e2, n1, n2, n3⟩ := next_at (RD := rdT RD t (nI s) v (nI e)) hT (j3.ref hM) hle.2 rfl hA.2.2.2.2.1
    have hf : FX2_follow (rdT RD t (nI s) v (nI e)) PL 4 = some (1, rdT RD t (nI s) v (nI e), PL) := by
      unfold FX2_follow
      rw [if_neg (by decide), if_neg (by decide), if_neg (by decide), if_neg (by decide), if_pos rfl]
      exact if_pos c
    rw [if_pos c, n1, Option.bind_some]
    refine Or.inr (Or.inr ⟨i + 1, _, PL, _, k, t2, t2', v2, v2', s2, e2, r_go rfl (by omega) hA.1 (fun z => absurd z.2 (by decide)) hf (by decide), rfl, n3, ⟨⟨by omega, j2, j3, j4.up (by omega), j5, ?_, j7⟩, jW, jw, jk, jS⟩, by omega⟩)
    obtain ⟨nm, y1, y2⟩ := j6
    exact ⟨nm, y1, by omega⟩
  · rw [if_neg c]
    exact Or.inr (Or.inl ⟨i, RD, PL, MO, k, t, t', v, v', s, e, rfl, rfl, hA, ⟨⟨j1, j2, j3, j4, j5, j6, j7⟩, jW, jw, jk, jS⟩, c, hs, h1⟩)
theorem end_step (hT : TapM C N TP) (hM : RefM C N MO0) {i s s0 e k κ Wm : Nat} {t t' v val : Int32} {v' : Int64} (hA : At N TP RD MO t t' v v' s e) (hI : Inv0 MO0 RD PL MO i s) (hW : Mo_all MO 1422 = nI Wm) (hW8 : Wm ≤ 8) (hk : k ≤ 12) (hS : Rd_fault RD = 0 → Wm < 8 ∧ k < 12 ∧ ∃ ln, Sy RD PL (sMo_all MO (upd (upd (Mo_all MO) (1437 + 12 * Wm + k) (nI κ)) (1533 + 12 * Wm + k) val)) ln ∧ MdW PL (sMo_all MO (upd (upd (Mo_all MO) (1437 + 12 * Wm + k) (nI κ)) (1533 + 12 * Wm + k) val)) ln Wm ∧ ln Wm = k + 1) (hs : s0 < s) : RoundRes N TP MO0 4 i RD PL (wrK (nI Wm) (nI k) (nI κ) val MO) s0 Wm := by
  unfold wrK
  by_cases c1 : k < 12
  · rw [if_neg (show ¬ (12 : Int32) ≤ nI k from nI_ge (b := 12) c1 (by decide))]
    by_cases c2 : Wm < 8
    · have x1 : (1437 : Int32) + 12 * nI Wm + nI k = nI (1437 + 12 * Wm + k) := by rw [show (12 : Int32) = nI 12 from rfl, pk_mul, show (1437 : Int32) = nI 1437 from rfl, nI_add, nI_add]
      have x2 : (1533 : Int32) + 12 * nI Wm + nI k = nI (1533 + 12 * Wm + k) := by rw [show (12 : Int32) = nI 12 from rfl, pk_mul, show (1533 : Int32) = nI 1533 from rfl, nI_add, nI_add]
      rw [if_neg (show ¬ (8 : Int32) ≤ nI Wm from nI_ge (b := 8) c2 (by decide)), x1, x2, ix_nI (by omega) (by decide), ix_nI (by omega) (by decide), nI_clamp (by omega), nI_clamp (by omega), nI_1]
      have a1 : ∀ j, j ≠ 1437 + 12 * Wm + k → j ≠ 1533 + 12 * Wm + k → upd (upd (Mo_all MO) (1437 + 12 * Wm + k) (nI κ)) (1533 + 12 * Wm + k) val j = Mo_all MO j := fun j h1 h2 => (u_ne h2).trans (u_ne h1)
      generalize upd (upd (Mo_all MO) (1437 + 12 * Wm + k) (nI κ)) (1533 + 12 * Wm + k) val = A at a1 hS ⊢
      obtain ⟨j1, j2, j3, j4, j5, j6, j7⟩ := hI
      have hI' : InvW MO0 RD PL (sMo_all MO A) i s Wm (k + 1) := ⟨⟨j1, j2, ⟨j3.1, j3.2.1, j3.2.2.1, j3.2.2.2.1, j3.2.2.2.2.1, j3.2.2.2.2.2.1, fun j hj => (a1 j (by omega) (by omega)).trans (j3.2.2.2.2.2.2 j hj)⟩, j4, j5, j6, ⟨Wm, hW8, (a1 1422 (by omega) (by omega)).trans hW⟩⟩, (a1 1422 (by omega) (by omega)).trans hW, hW8, by omega, fun hz => (hS hz).2.2⟩
      exact end_sign hT hM (MO := sMo_all MO A) hA hI' (fun _ => by omega) hs
    · rw [if_pos (show (8 : Int32) ≤ nI Wm from nI_le (a := 8) (by omega) (by omega))]
      exact end_sign hT hM hA ⟨hI, hW, hW8, hk, fun hz => by have := (hS hz).1; omega⟩ (fun hz => by have := (hS hz).1; omega) hs
  · rw [if_pos (show (12 : Int32) ≤ nI k from nI_le (a := 12) (by omega) (by omega))]
    exact end_sign hT hM hA ⟨hI, hW, hW8, hk, fun hz => by have := (hS hz).2.1; omega⟩ (fun hz => by have := (hS hz).2.1; omega) hs
/-- where a number is wanting -/
theorem wr_bad {Wm k : Nat} {κ val : Int32} (h : Mo_faultKind MO = 1) (hK : KeepR MO0 MO) (hW8 : Wm ≤ 8) (hk : k ≤ 12) : ∃ k' MO', wrK (nI Wm) (nI k) κ val MO = some (Sum.inr (Sum.inr (k', MO'))) ∧ Mo_faultKind MO' = 1 ∧ Mo_faultPlace MO' = Mo_faultPlace MO ∧ KeepR MO0 MO' := by
  unfold wrK
  by_cases c1 : k < 12
  · rw [if_neg (show ¬ (12 : Int32) ≤ nI k from nI_ge (b := 12) c1 (by decide))]
    by_cases c2 : Wm < 8
    · have x1 : (1437 : Int32) + 12 * nI Wm + nI k = nI (1437 + 12 * Wm + k) := by rw [show (12 : Int32) = nI 12 from rfl, pk_mul, show (1437 : Int32) = nI 1437 from rfl, nI_add, nI_add]
      have x2 : (1533 : Int32) + 12 * nI Wm + nI k = nI (1533 + 12 * Wm + k) := by rw [show (12 : Int32) = nI 12 from rfl, pk_mul, show (1533 : Int32) = nI 1533 from rfl, nI_add, nI_add]
      rw [if_neg (show ¬ (8 : Int32) ≤ nI Wm from nI_ge (b := 8) c2 (by decide)), x1, x2, ix_nI (by omega) (by decide), ix_nI (by omega) (by decide), nI_clamp (by omega), nI_clamp (by omega), sgK_bad (MO := sMo_all MO (upd (upd (Mo_all MO) (1437 + 12 * Wm + k) κ) (1533 + 12 * Wm + k) val)) h]
      exact ⟨_, _, rfl, h, rfl, up_keep (MO := sMo_all MO (upd (Mo_all MO) (1437 + 12 * Wm + k) κ)) (up_keep hK (by omega)) (by omega)⟩
    · rw [if_pos (show (8 : Int32) ≤ nI Wm from nI_le (a := 8) (by omega) (by omega)), sgK_bad h]
      exact ⟨_, _, rfl, h, rfl, hK⟩
  · rw [if_pos (show (12 : Int32) ≤ nI k from nI_le (a := 12) (by omega) (by omega)), sgK_bad h]
    exact ⟨_, _, rfl, h, rfl, hK⟩
end ROUND
