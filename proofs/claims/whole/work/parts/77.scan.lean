/-! ===== a token, taken on both sides ===== -/
abbrev rdT (RD : RdT) (t st v n : Int32) : RdT := (RD.1, RD.2.1, RD.2.2.1, t, st, v, n, RD.2.2.2.2.2.2.2)
abbrev moT (MO : MoT) (t ta : Int32) (v : Int64) (n : Int32) : MoT := (MO.1, MO.2.1, MO.2.2.1, MO.2.2.2.1, MO.2.2.2.2.1, MO.2.2.2.2.2.1, MO.2.2.2.2.2.2.1, MO.2.2.2.2.2.2.2.1, MO.2.2.2.2.2.2.2.2.1, MO.2.2.2.2.2.2.2.2.2.1, MO.2.2.2.2.2.2.2.2.2.2.1, MO.2.2.2.2.2.2.2.2.2.2.2.1, n, t, ta, v, MO.2.2.2.2.2.2.2.2.2.2.2.2.2.2.2.2)
def TapM (C : Nat → Nat) (N : Nat) (TP : TpT) : Prop := N ≤ 800 ∧ Tp_length TP = nI N ∧ ∀ i, i < N → C i < 256 ∧ Tp_bytes TP i = sb_b (C i)
def RefM (C : Nat → Nat) (N : Nat) (MO : MoT) : Prop := Mo_size0 MO = nI N ∧ ∀ i, i < N → Mo_tape MO i = nI (C i)
def blB (c : Nat) : Bool := decide (c = 32 ∨ c = 10)
def leB (c : Nat) : Bool := decide (97 ≤ c ∧ c ≤ 122)
def diB (c : Nat) : Bool := decide (48 ≤ c ∧ c ≤ 57)
theorem bl_c : ∀ c, c < 256 → FX2_isBlank (sb_b c) = some (blB c) := by decide +kernel
theorem le_c : ∀ c, c < 256 → FX2_isLetter (sb_b c) = some (leB c) := by decide +kernel
theorem di_c : ∀ c, c < 256 → FX2_isDigit (sb_b c) = some (diB c) := by decide +kernel
theorem le_m : ∀ c, c < 256 → FX10_isLetter (nI c) = some (leB c) := by decide +kernel
theorem di_m : ∀ c, c < 256 → FX10_isDigit (nI c) = some (diB c) := by decide +kernel
theorem sb_lo : ∀ c, c < 128 → sb_b c = nI c := by decide +kernel
theorem sb_59 : ∀ c, c < 256 → (sb_b c = 59 ↔ c = 59) := by decide +kernel
theorem sb_44 : ∀ c, c < 256 → (sb_b c = 44 ↔ c = 44) := by decide +kernel
theorem le_m1 : FX10_isLetter (-1) = some false := by decide +kernel
theorem di_m1 : FX10_isDigit (-1) = some false := by decide +kernel
section SCAN
variable {C : Nat → Nat} {N : Nat} {TP : TpT} {MO : MoT} {RD : RdT}
theorem c_byte (h : TapM C N TP) {p : Nat} (hp : p < N) : FX5_byteAt TP (nI p) = some (sb_b (C p)) := by
  have hN := h.1
  unfold FX5_byteAt
  rw [if_neg (nI_pos (by omega)), h.2.1, if_neg (nI_ge hp (by omega)), ix_nI (by omega) (by decide), nI_clamp (by omega), (h.2.2 p hp).2]
theorem c_byte_e (h : TapM C N TP) {p : Nat} (hp : N ≤ p) (hp' : p < 2 ^ 31) : FX5_byteAt TP (nI p) = some 0 := by
  unfold FX5_byteAt
  rw [if_neg (nI_pos hp'), h.2.1, if_pos (nI_le hp hp')]
theorem m_byte (h : RefM C N MO) (hN : N ≤ 800) {p : Nat} (hp : p < N) : FX10_byteAt MO (nI p) = some (nI (C p)) := by
  unfold FX10_byteAt
  rw [h.1, if_neg (nI_ge hp (by omega)), ix_nI (by omega) (by decide), nI_clamp (by omega), h.2 p hp]
theorem m_byte_e (h : RefM C N MO) {p : Nat} (hp : N ≤ p) (hp' : p < 2 ^ 31) : FX10_byteAt MO (nI p) = some (-1) := by
  unfold FX10_byteAt
  rw [h.1, if_pos (nI_le hp hp')]
/-- blanks are passed over -/
theorem skip_both (hT : TapM C N TP) (hM : RefM C N MO) {p : Nat} (hp : p ≤ N) {t st v : Int32} {t' ta : Int32} {v' : Int64} : ∃ s, p ≤ s ∧ s ≤ N ∧ itr (FX2_scan_0 TP) (rdT RD t st v (nI p)) = some (rdT RD t st v (nI s)) ∧ itr FX10_takes_0 (moT MO t' ta v' (nI p)) = some (moT MO t' ta v' (nI s)) ∧ (s < N → blB (C s) = false) := by
  have hN := hT.1
  obtain ⟨e, e', q1, q2, s, s1, s2, rfl, rfl, s3⟩ := itr_sim (f := FX2_scan_0 TP) (g := FX10_takes_0) (Q := fun e e' => ∃ s, p ≤ s ∧ s ≤ N ∧ e = rdT RD t st v (nI s) ∧ e' = moT MO t' ta v' (nI s) ∧ (s < N → blB (C s) = false)) (fun i x x' => p + i ≤ N ∧ x = rdT RD t st v (nI (p + i)) ∧ x' = moT MO t' ta v' (nI (p + i))) (N - p) (by
    rintro i x x' hi ⟨hpi, rfl, rfl⟩
    have hM' : RefM C N (moT MO t' ta v' (nI (p + i))) := hM
    by_cases c : p + i < N
    · have hb := (hT.2.2 (p + i) c).1
      have f1 : FX2_scan_0 TP (rdT RD t st v (nI (p + i))) = if blB (C (p + i)) = true then some (Sum.inl (rdT RD t st v (nI (p + (i + 1))))) else some (Sum.inr (rdT RD t st v (nI (p + i)))) := by
        unfold FX2_scan_0
        rw [hT.2.1]
        refine (if_neg (nI_ge c (by omega))).trans ?_
        refine bd_of (c_byte hT c) ?_
        refine bd_of (bl_c _ hb) ?_
        cases blB (C (p + i))
        · exact (if_pos bI_f).trans (if_neg (by decide)).symm
        · refine (if_neg bI_t).trans (Eq.trans ?_ (if_pos rfl).symm)
          exact congrArg (fun z => some (Sum.inl (rdT RD t st v z))) (nI_1 (p + i))
      have f2 : FX10_takes_0 (moT MO t' ta v' (nI (p + i))) = if blB (C (p + i)) = true then some (Sum.inl (moT MO t' ta v' (nI (p + (i + 1))))) else some (Sum.inr (moT MO t' ta v' (nI (p + i)))) := by
        unfold FX10_takes_0
        refine bd_of (m_byte hM' hN c) ?_
        unfold blB
        by_cases c1 : C (p + i) = 32
        · rw [if_pos (show nI (C (p + i)) = 32 from by rw [c1]; rfl), decide_eq_true (Or.inl c1), if_pos rfl]
          exact congrArg (fun z => some (Sum.inl (moT MO t' ta v' z))) (nI_1 (p + i))
        · refine (if_neg (show ¬ nI (C (p + i)) = 32 from fun z => c1 (nI_inj (b := 32) (by omega) (by decide) z))).trans ?_
          refine bd_of (m_byte hM' hN c) ?_
          by_cases c2 : C (p + i) = 10
          · rw [if_pos (show nI (C (p + i)) = 10 from by rw [c2]; rfl), decide_eq_true (Or.inr c2), if_pos rfl]
            exact congrArg (fun z => some (Sum.inl (moT MO t' ta v' z))) (nI_1 (p + i))
          · rw [if_neg (show ¬ nI (C (p + i)) = 10 from fun z => c2 (nI_inj (b := 10) (by omega) (by decide) z)), decide_eq_false (by omega), if_neg (by decide)]
      cases hbl : blB (C (p + i))
      · right
        rw [hbl, if_neg (by decide)] at f1 f2
        exact ⟨_, _, f1, f2, p + i, by omega, by omega, rfl, rfl, fun _ => hbl⟩
      · left
        rw [hbl, if_pos rfl] at f1 f2
        exact ⟨by omega, _, _, f1, f2, by omega, rfl, rfl⟩
    · right
      refine ⟨_, _, ?_, ?_, p + i, by omega, by omega, rfl, rfl, fun z => absurd z c⟩
      · unfold FX2_scan_0
        rw [hT.2.1]
        exact if_pos (nI_le (by omega) (by omega))
      · unfold FX10_takes_0
        refine bd_of (m_byte_e hM' (by omega) (by omega)) ?_
        refine (if_neg (by decide)).trans ?_
        refine bd_of (m_byte_e hM' (by omega) (by omega)) ?_
        exact if_neg (by decide)) (s := rdT RD t st v (nI p)) (s' := moT MO t' ta v' (nI p)) ⟨hp, rfl, rfl⟩
  exact ⟨s, s1, s2, q1, q2, s3⟩
end SCAN
