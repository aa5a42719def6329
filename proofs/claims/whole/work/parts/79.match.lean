/-! ===== which word it is ===== -/
def WDn (j : Nat) : Nat := [119, 111, 114, 107, 32, 32, 108, 111, 99, 107, 32, 32, 102, 114, 101, 101, 32, 32, 112, 117, 116, 32, 32, 32, 103, 101, 116, 32, 32, 32, 115, 101, 110, 100, 32, 32, 97, 119, 97, 105, 116, 32, 114, 101, 115, 116, 32, 32, 97, 103, 97, 105, 110, 32, 115, 116, 111, 112, 32, 32, 119, 105, 110, 100, 111, 119, 103, 114, 97, 99, 101, 32, 112, 105, 112, 101, 32, 32, 119, 111, 114, 107, 101, 114].getD j 0
def lnK (k : Nat) : Nat := [4, 4, 4, 3, 3, 4, 5, 4, 5, 4, 6, 5, 4, 6].getD k 0
def csK (k : Nat) : Nat := [464141, 247223, 131360, 12251, 5258, 378004, 985142, 358472, 670208, 388978, 335086736, 4075196, 321926, 338358942].getD k 0
theorem wd_eq : ∀ j, j < 84 → WDf j = nI (WDn j) := by decide +kernel
theorem ln_le : ∀ k, k < 14 → 1 ≤ lnK k ∧ lnK k ≤ 6 := by decide +kernel
theorem wd_let : ∀ k, k < 14 → ∀ j, j < lnK k → 97 ≤ WDn (6 * k + j) ∧ WDn (6 * k + j) ≤ 122 := by decide +kernel
theorem wd_bl : ∀ k, k < 14 → ∀ j, j < 6 → lnK k ≤ j → WDn (6 * k + j) = 32 := by decide +kernel
theorem cs_eq : ∀ k, k < 14 → hN WDn (6 * k) (lnK k) = csK k := by decide +kernel
theorem cs_ne : ∀ k, k < 14 → ∀ l, l < 14 → csK k = csK l → k = l := by decide +kernel
theorem cs_lt : ∀ k, k < 14 → csK k < 2 ^ 31 := by decide +kernel
theorem cs_m1 : ∀ k, k < 14 → ¬ (-1 : Int64) = lN (csK k) := by decide +kernel
def wmB (C : Nat → Nat) (s m k : Nat) : Bool := decide (m = lnK k ∧ ∀ j, j < m → C (s + j) = WDn (6 * k + j))
def wix (C : Nat → Nat) (s m : Nat) : Nat → Option Nat
  | 0 => none
  | k + 1 => if wmB C s m k = true then some k else wix C s m k
theorem hN_cg {C D : Nat → Nat} {s r : Nat} : ∀ m, (∀ j, j < m → C (s + j) = D (r + j)) → hN C s m = hN D r m
  | 0, _ => rfl
  | m + 1, h => by
    show 27 * hN C s m + (C (s + m) - 96) = 27 * hN D r m + (D (r + m) - 96)
    rw [hN_cg m (fun j hj => h j (by omega)), h m (by omega)]
theorem wm_cs {C : Nat → Nat} {s m k : Nat} (hk : k < 14) (h : wmB C s m k = true) : hN C s m = csK k := by
  obtain ⟨h1, h2⟩ := of_decide_eq_true h
  rw [hN_cg m h2, h1]
  exact cs_eq k hk
theorem wm_one {C : Nat → Nat} {s m k l : Nat} (hk : k < 14) (hl : l < 14) (h : wmB C s m k = true) (h' : wmB C s m l = true) : k = l := cs_ne k hk l hl ((wm_cs hk h).symm.trans (wm_cs hl h'))
theorem wix_lt {C : Nat → Nat} {s m : Nat} : ∀ {n k : Nat}, wix C s m n = some k → k < n ∧ wmB C s m k = true
  | 0, k, h => by cases h
  | n + 1, k, h => by
    unfold wix at h
    by_cases c : wmB C s m n = true
    · rw [if_pos c] at h
      have := Option.some.inj h
      subst this
      exact ⟨by omega, c⟩
    · rw [if_neg c] at h
      have := wix_lt h
      exact ⟨by omega, this.2⟩
theorem wix_some {C : Nat → Nat} {s m k : Nat} (h : wmB C s m k = true) : ∀ n, n ≤ 14 → k < n → wix C s m n = some k
  | 0, _, hk => by omega
  | n + 1, hn, hk => by
    by_cases c : wmB C s m n = true
    · rw [show wix C s m (n + 1) = some n from if_pos c, wm_one (by omega) (by omega) c h]
    · rw [show wix C s m (n + 1) = wix C s m n from if_neg c]
      refine wix_some h n (by omega) ?_
      by_cases e : k = n
      · subst e
        exact absurd h c
      · omega
/-- what the reference's number says of the word -/
def WordR (idx : Option Nat) (v : Int64) : Prop := (∀ k, idx = some k → k < 14) ∧ ∀ k, k < 14 → (v = lN (csK k) ↔ idx = some k)
theorem word_r {C : Nat → Nat} {s m : Nat} (hl : ∀ j, j < m → 97 ≤ C (s + j) ∧ C (s + j) ≤ 122) : WordR (wix C s m 14) (hv C s m) := by
  refine ⟨fun k hk => (wix_lt hk).1, fun k hk => ⟨fun h => ?_, fun h => ?_⟩⟩
  · unfold hv at h
    by_cases c : m ≤ 9
    · rw [if_pos c] at h
      have h1 := hN_lt m hl
      have h2 : 27 ^ m ≤ 27 ^ 9 := Nat.pow_le_pow_right (by decide) c
      have h3 : (27 : Nat) ^ 9 < 2 ^ 63 := by decide
      have h4 := cs_lt k hk
      have e := (pk_lEQ (by omega) (by omega)).mp h
      rw [← cs_eq k hk] at e
      obtain ⟨i1, i2⟩ := hN_inj m (lnK k) hl (wd_let k hk) e
      exact wix_some (decide_eq_true ⟨i1, i2⟩) 14 (Nat.le_refl _) hk
    · rw [if_neg c] at h
      exact absurd h (cs_m1 k hk)
  · have h1 := (wix_lt h).2
    have h2 := (of_decide_eq_true h1).1
    have h3 := (ln_le k hk).2
    unfold hv
    rw [if_pos (by omega), wm_cs hk h1]
section MATCH
variable {C : Nat → Nat} {N : Nat} {TP : TpT} {RD : RdT}
def sgN (C : Nat → Nat) (s m i : Nat) : Nat := if i < m then C (s + i) else 32
theorem c_isWord (hT : TapM C N TP) {s m k : Nat} (hm : s + m ≤ N) (hk : k < 14) (hl : ∀ j, j < m → 97 ≤ C (s + j) ∧ C (s + j) ≤ 122) {t v : Int32} : FX2_isWord (rdT RD t (nI s) v (nI (s + m))) TP (nI k) = some (wmB C s m k) := by
  have hN := hT.1
  have hk6 := ln_le k hk
  have ed : nI (s + m) - nI s = nI m := by rw [pk_sub (by omega)]; congr 1; omega
  unfold FX2_isWord
  by_cases c6 : m ≤ 6
  · have q := itr_inv (f := FX2_isWord_18 (rdT RD t (nI s) v (nI (s + m))) TP (nI k)) (Q := fun e => (e = Sum.inl () ∧ ∀ i, i < 6 → sgN C s m i = WDn (6 * k + i)) ∨ (e = Sum.inr () ∧ ∃ i, i < 6 ∧ sgN C s m i ≠ WDn (6 * k + i))) (fun i x => x = nI i ∧ ∀ j, j < i → sgN C s m j = WDn (6 * k + j)) 6 (by
      rintro i x hi ⟨rfl, hg⟩
      by_cases ci : i < 6
      · have hj : ∀ c, c < 128 → FX2_isWord_j52 (nI k) (nI i) (nI c) = if WDn (6 * k + i) = c then some (Sum.inl (nI (i + 1))) else some (Sum.inr (Sum.inr ())) := fun c hc => by
          unfold FX2_isWord_j52
          have hx : nI k * 6 + nI i = nI (6 * k + i) := by rw [show (6 : Int32) = nI 6 from rfl, pk_mul, nI_add]; congr 1; omega
          dsimp only [nm]
          rw [hx, if_neg (nI_pos (by omega)), if_neg (show ¬ (84 : Int32) ≤ nI (6 * k + i) from nI_ge (b := 84) (by omega) (by decide)), ix_nI (by omega) (by decide), nI_clamp (by omega), wd_eq _ (by omega), nI_1]
          have hw : WDn (6 * k + i) < 128 := by
            by_cases z : i < lnK k
            · have := wd_let k hk i z
              omega
            · rw [wd_bl k hk i ci (by omega)]
              decide
          by_cases z : WDn (6 * k + i) = c
          · rw [if_pos z, if_pos (by rw [z])]
          · rw [if_neg z, if_neg (fun y => z (nI_inj (by omega) (by omega) y))]
        have hsg : sgN C s m i < 128 := by
          unfold sgN
          split
          · rename_i z
            have := hl i z
            omega
          · decide
        have f1 : FX2_isWord_18 (rdT RD t (nI s) v (nI (s + m))) TP (nI k) (nI i) = if WDn (6 * k + i) = sgN C s m i then some (Sum.inl (nI (i + 1))) else some (Sum.inr (Sum.inr ())) := by
          rw [← hj _ hsg]
          unfold FX2_isWord_18
          refine (if_neg (show ¬ (6 : Int32) ≤ nI i from nI_ge (b := 6) ci (by decide))).trans ?_
          show (if nI (s + m) ≤ nI s + nI i then _ else _) = _
          rw [nI_add]
          unfold sgN
          by_cases z : i < m
          · have hb := hl i z
            rw [if_neg (nI_ge (by omega) (by omega)), if_pos z]
            refine bd_of (c_byte hT (show s + i < N by omega)) ?_
            rw [sb_lo _ (by omega)]
          · rw [if_pos (nI_le (by omega) (by omega)), if_neg z]
            rfl
        by_cases z : WDn (6 * k + i) = sgN C s m i
        · left
          rw [if_pos z] at f1
          refine ⟨ci, _, f1, rfl, fun j hj' => ?_⟩
          by_cases e : j = i
          · subst e
            exact z.symm
          · exact hg j (by omega)
        · right
          rw [if_neg z] at f1
          exact ⟨_, f1, Or.inr ⟨rfl, i, ci, fun y => z y.symm⟩⟩
      · right
        have : i = 6 := by omega
        subst this
        refine ⟨Sum.inl (), ?_, Or.inl ⟨rfl, hg⟩⟩
        unfold FX2_isWord_18
        exact if_pos (show (6 : Int32) ≤ nI 6 by decide)) (s := (0 : Int32)) ⟨rfl, fun j hj => by omega⟩
    obtain ⟨e, q1, q2⟩ := q
    refine (if_pos (show nI (s + m) - nI s ≤ (6 : Int32) from by rw [ed]; exact nI_le (b := 6) c6 (by decide))).trans ?_
    refine bd_of q1 ?_
    rcases q2 with ⟨rfl, hg⟩ | ⟨rfl, i, hi, hne⟩
    · have hmk : m = lnK k := by
        by_cases z1 : m < lnK k
        · have h1 := hg m (by omega)
          unfold sgN at h1
          rw [if_neg (by omega)] at h1
          have h2 := wd_let k hk m z1
          omega
        · by_cases z2 : lnK k < m
          · have h1 := hg (lnK k) (by omega)
            unfold sgN at h1
            rw [if_pos z2, wd_bl k hk (lnK k) (by omega) (Nat.le_refl _)] at h1
            have h2 := hl (lnK k) z2
            omega
          · omega
      have : wmB C s m k = true := decide_eq_true ⟨hmk, fun j hj => by
        have h1 := hg j (by omega)
        unfold sgN at h1
        rw [if_pos hj] at h1
        exact h1⟩
      rw [this]
      rfl
    · have : wmB C s m k = false := by
        apply decide_eq_false
        rintro ⟨h1, h2⟩
        apply hne
        unfold sgN
        by_cases z : i < m
        · rw [if_pos z]
          exact h2 i z
        · rw [if_neg z]
          exact (wd_bl k hk i hi (by omega)).symm
      rw [this]
      rfl
  · refine (if_neg (show ¬ nI (s + m) - nI s ≤ (6 : Int32) from by rw [ed]; exact nI_ge (a := 6) (by omega) (by omega))).trans ?_
    rw [show wmB C s m k = false from decide_eq_false (fun z => by omega)]
theorem c_word (hT : TapM C N TP) {s m : Nat} (hm : s + m ≤ N) (hl : ∀ j, j < m → 97 ≤ C (s + j) ∧ C (s + j) ≤ 122) {t : Int32} : itr (FX2_scanWord_50 TP) ((0 : Int32), rdT RD t (nI s) (-1) (nI (s + m))) = some (rdT RD t (nI s) (oI (wix C s m 14)) (nI (s + m))) := by
  refine itr_chain (fun k => (nI k, rdT RD t (nI s) (oI (wix C s m k)) (nI (s + m)))) 14 (fun k hk => ?_) ?_
  · unfold FX2_scanWord_50
    refine (if_neg (show ¬ (14 : Int32) ≤ nI k from nI_ge (b := 14) hk (by decide))).trans ?_
    refine bd_of (c_isWord hT hm hk hl) ?_
    dsimp only [nm]
    rw [nI_1]
    cases c : wmB C s m k
    · rw [if_pos bI_f, show wix C s m (k + 1) = wix C s m k from if_neg (by rw [c]; decide)]
    · rw [if_neg bI_t, show wix C s m (k + 1) = some k from if_pos c]
      rfl
  · unfold FX2_scanWord_50
    exact if_pos (show (14 : Int32) ≤ nI 14 by decide)
end MATCH
