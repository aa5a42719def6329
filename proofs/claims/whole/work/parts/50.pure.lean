/-! ===== the pure side: how the programs are reckoned with ===== -/
theorem itr_chain {σ ε : Type} {f : σ → Option (σ ⊕ ε)} {e : ε} (s : Nat → σ) (n : Nat) (h : ∀ i, i < n → f (s i) = some (.inl (s (i + 1)))) (hf : f (s n) = some (.inr e)) : itr f (s 0) = some e := by
  have key : ∀ d i, i + d = n → itr f (s i) = some e := by
    intro d
    induction d with
    | zero =>
      intro i hi
      rw [show i = n by omega]
      exact itr_inr hf
    | succ d ih =>
      intro i hi
      rw [itr_inl (h i (by omega))]
      exact ih (i + 1) (by omega)
  exact key n 0 (by omega)
theorem ix_nI {α : Type} {n N : Nat} (h : n < N) (hN : N < 2 ^ 31) (k : Option α) : ix (nI n) N k = k := ix_in (vp_in_nI h hN)
theorem nI_a2 (a b c : Nat) : nI a + nI b + nI c = nI (a + b + c) := by rw [nI_add, nI_add]
theorem nI_m1 (n : Nat) (h : n < 2 ^ 31) : ¬ nI n = -1 := by
  intro e
  have h1 := congrArg Int32.toInt e
  rw [nI_toInt h] at h1
  have h2 : (-1 : Int32).toInt = -1 := rfl
  omega
theorem nI_inj {a b : Nat} (ha : a < 2 ^ 31) (hb : b < 2 ^ 31) (h : nI a = nI b) : a = b := (nI_eq ha hb).mp h
/-! class: rows -/
theorem at_eq {n i : Nat} {f : Nat → Int32} (h : i < n) (hn : n < 2 ^ 31) : FX9_at n f (nI i) = some (f i) := by
  unfold FX9_at
  rw [if_neg (nI_pos (by omega)), if_neg (show ¬ Int32.ofNat n ≤ nI i from nI_ge h hn), ix_nI h hn, nI_clamp (by omega)]
theorem at_neg {n : Nat} {f : Nat → Int32} : FX9_at n f (-1) = some (-1) := by
  unfold FX9_at
  rw [if_pos (by decide)]
theorem set_eq {n i : Nat} {f : Nat → Int32} {v : Int32} (h : i < n) (hn : n < 2 ^ 31) : FX9_set n f (nI i) v = some (upd f i v) := by
  unfold FX9_set
  rw [if_neg (nI_pos (by omega)), if_neg (show ¬ Int32.ofNat n ≤ nI i from nI_ge h hn), ix_nI h hn]
  simp only [nm, nI_clamp (show i < 2 ^ 31 by omega)]
theorem add_eq {n i : Nat} {f : Nat → Int32} {v : Int32} (h : i < n) (hn : n < 2 ^ 31) : FX9_add n f (nI i) v = some (upd f i (f i + v)) := by
  unfold FX9_add
  rw [if_neg (nI_pos (by omega)), if_neg (show ¬ Int32.ofNat n ≤ nI i from nI_ge h hn), ix_nI h hn, ix_nI h hn]
  simp only [nm, nI_clamp (show i < 2 ^ 31 by omega)]
theorem copy_eq {n : Nat} {f g : Nat → Int32} (hn : n < 2 ^ 31) : FX9_copy n f n g = some (fun k => if k < n then f k else g k) := by
  unfold FX9_copy
  have e : (if Int32.ofNat n < Int32.ofNat n then Int32.ofNat n else Int32.ofNat n) = nI n := by split <;> rfl
  rw [e, cpk_ok]
  · simp only [nm]
    congr 1
    funext k
    unfold va_cpy
    rw [nI_clamp hn, show Int32.toNatClampNeg 0 = 0 from rfl]
    by_cases hk : k < n
    · rw [if_pos (by omega), if_pos hk]
      congr 1
      omega
    · rw [if_neg (by omega), if_neg hk]
  · refine ⟨by decide, by decide, nI_pos hn, ?_, ?_, fun i _ => rfl⟩
    · rw [nI_clamp hn]
      show 0 + n ≤ n
      omega
    · rw [nI_clamp hn]
      show 0 + n ≤ n
      omega
/-! class: steps of a program -/
theorem cellOf_eq {PL : PlT} {W w k ln : Nat} (hW : Pl_workers PL = nI W) (hW8 : W ≤ 8) (hw : w < W) (hl : Pl_lengths PL w = nI ln) (hl12 : ln ≤ 12) (hk : k < ln) : FX1_cellOf PL (nI w) (nI k) = some (nI (12 * w + k)) := by
  unfold FX1_cellOf
  rw [if_neg (nI_pos (by omega)), hW, if_neg (nI_ge hw (by omega)), if_neg (nI_pos (by omega)), ix_nI (by omega) (by decide), nI_clamp (by omega), hl, if_pos (nI_lt hk (by omega))]
  congr 1
  rw [show (12 : Int32) = nI 12 from rfl, pk_mul, nI_add]
  congr 1
  omega
theorem cellOf_neg {PL : PlT} {W w : Nat} (hW : Pl_workers PL = nI W) (hW8 : W ≤ 8) (hw : w < W) : FX1_cellOf PL (nI w) (-1) = some (-1) := by
  unfold FX1_cellOf
  rw [if_neg (nI_pos (by omega)), hW, if_neg (nI_ge hw (by omega)), if_pos (by decide)]
theorem kindAt_eq {PL : PlT} {W w k ln : Nat} (hW : Pl_workers PL = nI W) (hW8 : W ≤ 8) (hw : w < W) (hl : Pl_lengths PL w = nI ln) (hl12 : ln ≤ 12) (hk : k < ln) : FX1_kindAt PL (nI w) (nI k) = some (Pl_kinds PL (12 * w + k)) := by
  unfold FX1_kindAt
  rw [cellOf_eq hW hW8 hw hl hl12 hk]
  show (FX9_at 96 (Pl_kinds PL) (nI (12 * w + k))).bind _ = _
  rw [at_eq (by omega) (by decide)]
  rfl
theorem numberAt_eq {PL : PlT} {W w k ln : Nat} (hW : Pl_workers PL = nI W) (hW8 : W ≤ 8) (hw : w < W) (hl : Pl_lengths PL w = nI ln) (hl12 : ln ≤ 12) (hk : k < ln) : FX1_numberAt PL (nI w) (nI k) = some (Pl_numbers PL (12 * w + k)) := by
  unfold FX1_numberAt
  rw [cellOf_eq hW hW8 hw hl hl12 hk]
  show (FX9_at 96 (Pl_numbers PL) (nI (12 * w + k))).bind _ = _
  rw [at_eq (by omega) (by decide)]
  rfl
theorem kindAt_neg {PL : PlT} {W w : Nat} (hW : Pl_workers PL = nI W) (hW8 : W ≤ 8) (hw : w < W) : FX1_kindAt PL (nI w) (-1) = some (-1) := by
  unfold FX1_kindAt
  rw [cellOf_neg hW hW8 hw]
  show (FX9_at 96 (Pl_kinds PL) (-1)).bind _ = _
  rw [at_neg]
  rfl
theorem numberAt_neg {PL : PlT} {W w : Nat} (hW : Pl_workers PL = nI W) (hW8 : W ≤ 8) (hw : w < W) : FX1_numberAt PL (nI w) (-1) = some (-1) := by
  unfold FX1_numberAt
  rw [cellOf_neg hW hW8 hw]
  show (FX9_at 96 (Pl_numbers PL) (-1)).bind _ = _
  rw [at_neg]
  rfl
/-! reference: the one row -/
theorem M_workers {MO : MoT} {β : Nat} (hb : Mo_b MO = nI β) (hβ : β < 9519) : FX10_workers MO = some (Mo_all MO β) := by
  unfold FX10_workers
  simp only [nm]
  rw [hb, show nI β + 0 = nI β from by rw [show (0 : Int32) = nI 0 from rfl, nI_add]; rfl, ix_nI hβ (by decide), nI_clamp (by omega)]
theorem M_place {MO : MoT} {β w : Nat} (hb : Mo_b MO = nI β) (hβ : β + 208 + w < 9519) : FX10_place MO (nI w) = some (Mo_all MO (β + 208 + w)) := by
  unfold FX10_place
  simp only [nm]
  rw [hb, show nI β + 208 + nI w = nI (β + 208 + w) from nI_a2 β 208 w, ix_nI hβ (by decide), nI_clamp (by omega)]
theorem M_sort {MO : MoT} {β w k : Nat} (hb : Mo_b MO = nI β) (hβ : β + 15 + 12 * w + k < 9519) : FX10_sort MO (nI w) (nI k) = some (Mo_all MO (β + 15 + 12 * w + k)) := by
  unfold FX10_sort
  simp only [nm]
  rw [hb, show nI β + 15 + 12 * nI w + nI k = nI (β + 15 + 12 * w + k) from by rw [show (12 : Int32) = nI 12 from rfl, show (15 : Int32) = nI 15 from rfl, pk_mul, nI_add, nI_add, nI_add], ix_nI hβ (by decide), nI_clamp (by omega)]
theorem M_number {MO : MoT} {β w k : Nat} (hb : Mo_b MO = nI β) (hβ : β + 111 + 12 * w + k < 9519) : FX10_number MO (nI w) (nI k) = some (Mo_all MO (β + 111 + 12 * w + k)) := by
  unfold FX10_number
  simp only [nm]
  rw [hb, show nI β + 111 + 12 * nI w + nI k = nI (β + 111 + 12 * w + k) from by rw [show (12 : Int32) = nI 12 from rfl, show (111 : Int32) = nI 111 from rfl, pk_mul, nI_add, nI_add, nI_add], ix_nI hβ (by decide), nI_clamp (by omega)]
