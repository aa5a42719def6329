/-! ===== words ===== -/
section WORDS
variable {C : Nat → Nat} {N : Nat} {TP : TpT} {MO : MoT} {RD : RdT}
def hN (C : Nat → Nat) (s : Nat) : Nat → Nat
  | 0 => 0
  | i + 1 => 27 * hN C s i + (C (s + i) - 96)
theorem hN_lt {s : Nat} : ∀ i, (∀ j, j < i → 97 ≤ C (s + j) ∧ C (s + j) ≤ 122) → hN C s i < 27 ^ i
  | 0, _ => by
    show 0 < 27 ^ 0
    decide
  | i + 1, h => by
    have h1 := hN_lt i (fun j hj => h j (by omega))
    have h2 := h i (by omega)
    show 27 * hN C s i + (C (s + i) - 96) < 27 ^ (i + 1)
    rw [Nat.pow_succ]
    omega
theorem hN_inj {D : Nat → Nat} {s r : Nat} : ∀ m n, (∀ j, j < m → 97 ≤ C (s + j) ∧ C (s + j) ≤ 122) → (∀ j, j < n → 97 ≤ D (r + j) ∧ D (r + j) ≤ 122) → hN C s m = hN D r n → m = n ∧ ∀ j, j < m → C (s + j) = D (r + j)
  | 0, 0, _, _, _ => ⟨rfl, fun j hj => by omega⟩
  | 0, n + 1, _, h2, e => by
    exfalso
    have := h2 n (by omega)
    have e' : 0 = 27 * hN D r n + (D (r + n) - 96) := e
    omega
  | m + 1, 0, h1, _, e => by
    exfalso
    have := h1 m (by omega)
    have e' : 27 * hN C s m + (C (s + m) - 96) = 0 := e
    omega
  | m + 1, n + 1, h1, h2, e => by
    have a1 := h1 m (by omega)
    have a2 := h2 n (by omega)
    have e' : 27 * hN C s m + (C (s + m) - 96) = 27 * hN D r n + (D (r + n) - 96) := e
    have e1 : hN C s m = hN D r n := by omega
    have e2 : C (s + m) = D (r + n) := by omega
    obtain ⟨i1, i2⟩ := hN_inj m n (fun j hj => h1 j (by omega)) (fun j hj => h2 j (by omega)) e1
    subst i1
    refine ⟨rfl, fun j hj => ?_⟩
    by_cases c : j = m
    · subst c
      exact e2
    · exact i2 j (by omega)
/-- the value that the reference makes of i letters -/
def hv (C : Nat → Nat) (s i : Nat) : Int64 := if i ≤ 9 then lN (hN C s i) else -1
theorem hv_s {s i c : Nat} (hc : C (s + i) = c) (h : 97 ≤ c) (hi : i < 9) : 27 * hv C s i + (nI c).toInt64 - 97 + 1 = hv C s (i + 1) ∨ ¬ c < 256 := by
  by_cases hc2 : c < 256
  · left
    unfold hv
    rw [if_pos (by omega), if_pos (by omega), nI_l (by omega), show (27 : Int64) = lN 27 from rfl, lN_mul, lN_add, show (97 : Int64) = lN 97 from rfl, lN_sub (by omega), lN_1]
    congr 1
    show _ = 27 * hN C s i + (C (s + i) - 96)
    omega
  · exact Or.inr hc2
theorem word_both (hT : TapM C N TP) (hM : RefM C N MO) {s : Nat} (hs : s < N) {t v t' : Int32} : ∃ m, s + m ≤ N ∧ (∀ j, j < m → 97 ≤ C (s + j) ∧ C (s + j) ≤ 122) ∧ itr (FX2_scanWord_0 TP) (rdT RD t (nI s) v (nI s)) = some (rdT RD t (nI s) v (nI (s + m))) ∧ itr FX10_takes_80 (moT MO t' (nI s) 0 (nI s)) = some (moT MO t' (nI s) (hv C s m) (nI (s + m))) ∧ (leB (C s) = true → 0 < m) := by
  have hN := hT.1
  obtain ⟨e, e', q1, q2, m, m1, m2, rfl, rfl, m3⟩ := itr_sim (f := FX2_scanWord_0 TP) (g := FX10_takes_80) (Q := fun e e' => ∃ m, s + m ≤ N ∧ (∀ j, j < m → 97 ≤ C (s + j) ∧ C (s + j) ≤ 122) ∧ e = rdT RD t (nI s) v (nI (s + m)) ∧ e' = moT MO t' (nI s) (hv C s m) (nI (s + m)) ∧ (leB (C s) = true → 0 < m)) (fun i x x' => s + i ≤ N ∧ (∀ j, j < i → 97 ≤ C (s + j) ∧ C (s + j) ≤ 122) ∧ x = rdT RD t (nI s) v (nI (s + i)) ∧ x' = moT MO t' (nI s) (hv C s i) (nI (s + i))) (N - s) (by
    rintro i x x' hi ⟨hpi, hl, rfl, rfl⟩
    have hM' : RefM C N (moT MO t' (nI s) (hv C s i) (nI (s + i))) := hM
    by_cases c : s + i < N
    · have hb := (hT.2.2 (s + i) c).1
      have f1 : FX2_scanWord_0 TP (rdT RD t (nI s) v (nI (s + i))) = if leB (C (s + i)) = true then some (Sum.inl (rdT RD t (nI s) v (nI (s + (i + 1))))) else some (Sum.inr (rdT RD t (nI s) v (nI (s + i)))) := by
        unfold FX2_scanWord_0
        rw [hT.2.1]
        refine (if_neg (nI_ge c (by omega))).trans ?_
        refine bd_of (c_byte hT c) ?_
        refine bd_of (le_c _ hb) ?_
        cases leB (C (s + i))
        · exact (if_pos bI_f).trans (if_neg (by decide)).symm
        · refine (if_neg bI_t).trans (Eq.trans ?_ (if_pos rfl).symm)
          exact congrArg (fun z => some (Sum.inl (rdT RD t (nI s) v z))) (nI_1 (s + i))
      have f2 : FX10_takes_80 (moT MO t' (nI s) (hv C s i) (nI (s + i))) = if leB (C (s + i)) = true then some (Sum.inl (moT MO t' (nI s) (hv C s (i + 1)) (nI (s + (i + 1))))) else some (Sum.inr (moT MO t' (nI s) (hv C s i) (nI (s + i)))) := by
        unfold FX10_takes_80
        refine bd_of (m_byte hM' hN c) ?_
        refine bd_of (le_m _ hb) ?_
        cases hle : leB (C (s + i))
        · exact (if_pos bI_f).trans (if_neg (by decide)).symm
        · have hlr : 97 ≤ C (s + i) ∧ C (s + i) ≤ 122 := of_decide_eq_true hle
          refine (if_neg bI_t).trans (Eq.trans ?_ (if_pos rfl).symm)
          have ed : nI (s + i) - nI s = nI i := by rw [pk_sub (by omega)]; congr 1; omega
          by_cases c9 : i < 9
          · refine (if_neg (show ¬ (9 : Int32) ≤ nI (s + i) - nI s from by rw [ed]; exact nI_ge (b := 9) c9 (by decide))).trans ?_
            refine bd_of (m_byte hM' hN c) ?_
            have e1 : 27 * hv C s i + (nI (C (s + i))).toInt64 - 97 + 1 = hv C s (i + 1) := by
              rcases hv_s (C := C) (s := s) (i := i) rfl hlr.1 c9 with z | z
              · exact z
              · exact absurd hb z
            show some (Sum.inl (moT MO t' (nI s) (27 * hv C s i + (nI (C (s + i))).toInt64 - 97 + 1) (nI (s + i) + 1))) = _
            rw [e1, nI_1]
            rfl
          · refine (if_pos (show (9 : Int32) ≤ nI (s + i) - nI s from by rw [ed]; exact nI_le (a := 9) (by omega) (by omega))).trans ?_
            show some (Sum.inl (moT MO t' (nI s) (-1) (nI (s + i) + 1))) = _
            rw [nI_1, show hv C s (i + 1) = -1 from if_neg (by omega)]
            rfl
      cases hle : leB (C (s + i))
      · right
        rw [hle, if_neg (by decide)] at f1 f2
        refine ⟨_, _, f1, f2, i, hpi, hl, rfl, rfl, fun z => ?_⟩
        cases i with
        | zero =>
          rw [Nat.add_zero, z] at hle
          exact absurd hle (by decide)
        | succ i => omega
      · left
        rw [hle, if_pos rfl] at f1 f2
        refine ⟨by omega, _, _, f1, f2, by omega, fun j hj => ?_, rfl, rfl⟩
        by_cases e : j = i
        · subst e
          exact of_decide_eq_true hle
        · exact hl j (by omega)
    · right
      refine ⟨_, _, ?_, ?_, i, hpi, hl, rfl, rfl, fun z => by omega⟩
      · unfold FX2_scanWord_0
        rw [hT.2.1]
        exact if_pos (nI_le (by omega) (by omega))
      · unfold FX10_takes_80
        refine bd_of (m_byte_e hM' (by omega) (by omega)) ?_
        refine bd_of le_m1 ?_
        exact if_pos bI_f) (s := rdT RD t (nI s) v (nI s)) (s' := moT MO t' (nI s) 0 (nI s)) ⟨by omega, fun j hj => by omega, rfl, rfl⟩
  exact ⟨m, m1, m2, q1, q2, m3⟩
end WORDS
