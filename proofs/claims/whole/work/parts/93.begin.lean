/-! ===== text ===== -/
theorem fil_eq {n : Nat} {f : Nat → Int32} {v : Int32} (hn : n < 2 ^ 31) : FJ7_fill_53178 n f v = some (fun j => if j < n then v else f j) := by
  have q : itr (FJ7_fill_53178_5 n v (nI n)) ((0 : Int32), f) = some (fun j => if j < n then v else f j) := by
    have := itr_chain (f := FJ7_fill_53178_5 n v (nI n)) (e := fun j => if j < n then v else f j) (fun i => (nI i, fun j => if j < i then v else f j)) n (fun i hi => by
      unfold FJ7_fill_53178_5
      refine (if_neg (nI_ge hi hn)).trans ?_
      refine (ix_nI hi hn _).trans ?_
      dsimp only [nm]
      rw [nI_clamp (by omega), nI_1]
      have e : upd (fun j => if j < i then v else f j) i v = (fun j => if j < i + 1 then v else f j) := by
        funext j
        by_cases c : j = i
        · rw [u_eq c, if_pos (by omega)]
        · rw [u_ne c]
          by_cases c2 : j < i
          · rw [if_pos c2, if_pos (by omega)]
          · rw [if_neg c2, if_neg (by omega)]
      rw [e]) (by
      unfold FJ7_fill_53178_5
      exact if_pos (nI_le (Nat.le_refl _) hn))
    have e0 : (fun j => if j < 0 then v else f j) = f := by
      funext j
      exact if_neg (by omega)
    rw [e0] at this
    exact this
  unfold FJ7_fill_53178
  dsimp only [nm]
  rw [show itr (FJ7_fill_53178_5 n v (Int32.ofNat n)) ((0 : Int32), f) = _ from q]
  rfl
theorem fil_nz {n : Nat} {f : Nat → Int32} {v : Int32} (hn : n < 2 ^ 31) (h : Nz n f) : FJ7_fill_53178 n f v = some (fun j => if j < n then v else 0) := by
  rw [fil_eq hn]
  congr 1
  funext j
  by_cases c : j < n
  · rw [if_pos c, if_pos c]
  · rw [if_neg c, if_neg c, h j (by omega)]
theorem fz_eq {n : Nat} : (fun j => if j < n then (0 : Int32) else 0) = fz := by
  funext j
  split <;> rfl
abbrev bgS (PL : PlT) : ScT := (0, Pl_window PL, Pl_grace PL, fz, fz, fz, fz, fz, (fun j => if j < 6 then (-1) else 0), fz, fz)
theorem begin_eq {SC : ScT} {PL : PlT} (h : NormS SC) : FX3_begin SC PL = some (bgS PL) := by
  obtain ⟨n0, n1, n2, n3, n4, n5, n6, n7⟩ := h
  unfold FX3_begin
  simp only [nm]
  refine bd_of (fil_nz (by decide) n0) ?_
  refine bd_of (fil_nz (by decide) n1) ?_
  refine bd_of (fil_nz (by decide) n2) ?_
  refine bd_of (fil_nz (by decide) n3) ?_
  refine bd_of (fil_nz (by decide) n4) ?_
  refine bd_of (fil_nz (by decide) n5) ?_
  refine bd_of (fil_nz (by decide) n6) ?_
  refine bd_of (fil_nz (by decide) n7) ?_
  show some (((0 : Int32), Pl_window PL, Pl_grace PL, (fun j => if j < 8 then (0 : Int32) else 0), (fun j => if j < 8 then (0 : Int32) else 0), (fun j => if j < 8 then (0 : Int32) else 0), (fun j => if j < 8 then (0 : Int32) else 0), (fun j => if j < 8 then (0 : Int32) else 0), (fun j => if j < 6 then (-1 : Int32) else 0), (fun j => if j < 4 then (0 : Int32) else 0), (fun j => if j < 64 then (0 : Int32) else 0)) : ScT) = _
  rw [fz_eq, fz_eq, fz_eq]
abbrev clP (PL : PlT) : PlT := (0, 4, 6, fz, Pl_kinds PL, Pl_numbers PL, Pl_reach PL, (fun j => if j < 4 then 1 else 0))
theorem clear_eq {PL : PlT} (h : NormP PL) : FX1_clear PL = some (clP PL) := by
  obtain ⟨n0, n1, n2, n3, n4⟩ := h
  unfold FX1_clear
  simp only [nm]
  refine bd_of (fil_nz (by decide) n0) ?_
  refine bd_of (fil_nz (by decide) n4) ?_
  show some (((0 : Int32), (4 : Int32), (6 : Int32), (fun j => if j < 8 then (0 : Int32) else 0), Pl_kinds PL, Pl_numbers PL, Pl_reach PL, (fun j => if j < 4 then (1 : Int32) else 0)) : PlT) = _
  rw [fz_eq]
/-! the masks -/
section FIND
variable {PL : PlT} {W : Nat} {ln : Nat → Nat}
theorem find_row (hP : PlanOK PL W ln) {w : Nat} (hw : w < W) {f : Nat → Int32} (hf : Nz 96 f) : ∃ f', itr (FX1_findReach_12 (nI w, sPl_reach PL f)) ((0 : Int32), sPl_reach PL f) = some (sPl_reach PL f') ∧ Nz 96 f' ∧ (∀ j, (j < 12 * w ∨ 12 * w + 12 ≤ j) → f' j = f j) ∧ ∀ k, k < ln w → ∀ κ n i, Want κ n i → bt (f' (12 * w + k)) i = rch (Pl_kinds PL) (Pl_numbers PL) w κ n (ln w - k) k := by
  have h8 := hP.2.1
  obtain ⟨hl, h1, h12⟩ := hP.2.2.1 w hw
  obtain ⟨e, q1, f', rfl, q2, q3, q4⟩ := itr_inv (f := FX1_findReach_12 (nI w, sPl_reach PL f)) (Q := fun e => ∃ f', e = sPl_reach PL f' ∧ Nz 96 f' ∧ (∀ j, (j < 12 * w ∨ 12 * w + 12 ≤ j) → f' j = f j) ∧ ∀ k, k < ln w → ∀ κ n i, Want κ n i → bt (f' (12 * w + k)) i = rch (Pl_kinds PL) (Pl_numbers PL) w κ n (ln w - k) k) (fun j x => ∃ f', x = (nI j, sPl_reach PL f') ∧ Nz 96 f' ∧ (∀ j, (j < 12 * w ∨ 12 * w + 12 ≤ j) → f' j = f j) ∧ ∀ k, k < j → ∀ κ n i, Want κ n i → bt (f' (12 * w + k)) i = rch (Pl_kinds PL) (Pl_numbers PL) w κ n (ln w - k) k) (ln w) (by
    rintro j x hj ⟨f', rfl, r1, r2, r3⟩
    have hP' : PlanOK (sPl_reach PL f') W ln := hP
    by_cases c : j < ln w
    · left
      refine ⟨c, ?_⟩
      obtain ⟨m, m1, m2⟩ := reachFrom_ok hP' hw c
      have f0 : FX1_findReach_12 (nI w, sPl_reach PL f) (nI j, sPl_reach PL f') = some (Sum.inl (nI (j + 1), sPl_reach PL (upd f' (12 * w + j) m))) := by
        unfold FX1_findReach_12
        refine (ix_nI (show w < 8 by omega) (by decide) _).trans ?_
        rw [nI_clamp (show w < 2 ^ 31 by omega)]
        refine (if_neg (show ¬ Pl_lengths PL w ≤ nI j by rw [hl]; exact nI_ge c (by omega))).trans ?_
        refine bd_of m1 ?_
        have hx : nI w * 12 + nI j = nI (12 * w + j) := by rw [show (12 : Int32) = nI 12 from rfl, pk_mul, nI_add]; congr 1; omega
        dsimp only [nm]
        rw [hx, ix_nI (show 12 * w + j < 96 by omega) (by decide), nI_clamp (by omega), nI_1]
      refine ⟨_, f0, upd f' (12 * w + j) m, rfl, r1.up (by omega) _, fun l hl' => (u_ne (by omega)).trans (r2 l hl'), fun k hk κ n i hi => ?_⟩
      by_cases e : k = j
      · subst e
        rw [u_eq rfl]
        exact m2 κ n i hi
      · rw [u_ne (by omega)]
        exact r3 k (by omega) κ n i hi
    · right
      have : j = ln w := by omega
      subst this
      refine ⟨_, ?_, f', rfl, r1, r2, r3⟩
      unfold FX1_findReach_12
      refine (ix_nI (show w < 8 by omega) (by decide) _).trans ?_
      rw [nI_clamp (show w < 2 ^ 31 by omega)]
      exact if_pos (show Pl_lengths PL w ≤ nI (ln w) by rw [hl]; exact nI_le (Nat.le_refl _) (by omega))) (s := ((0 : Int32), sPl_reach PL f)) ⟨f, rfl, hf, fun _ _ => rfl, fun k hk => by omega⟩
  exact ⟨f', q1, q2, q3, q4⟩
theorem find_eq (hP : PlanOK PL W ln) (hN : NormP PL) : ∃ f, FX1_findReach PL = some (sPl_reach PL f) ∧ Nz 96 f ∧ ReachOK (sPl_reach PL f) W ln := by
  have h8 := hP.2.1
  obtain ⟨e, q1, f', rfl, q2, q3⟩ := itr_inv (f := FX1_findReach_2) (Q := fun e => ∃ f', e = sPl_reach PL f' ∧ Nz 96 f' ∧ ReachOK (sPl_reach PL f') W ln) (fun w x => ∃ f', x = (nI w, sPl_reach PL f') ∧ Nz 96 f' ∧ ∀ w', w' < w → ∀ k, k < ln w' → ∀ κ n i, Want κ n i → bt (f' (12 * w' + k)) i = rch (Pl_kinds PL) (Pl_numbers PL) w' κ n (ln w' - k) k) W (by
    rintro w x hw ⟨f', rfl, r1, r2⟩
    by_cases c : w < W
    · left
      refine ⟨c, ?_⟩
      obtain ⟨f2, a1, a2, a3, a4⟩ := find_row hP c r1
      have f0 : FX1_findReach_2 (nI w, sPl_reach PL f') = some (Sum.inl (nI (w + 1), sPl_reach PL f2)) := by
        unfold FX1_findReach_2
        refine (if_neg (show ¬ Pl_workers PL ≤ nI w by rw [hP.1]; exact nI_ge c (by omega))).trans ?_
        refine bd_of a1 ?_
        dsimp only [nm]
        rw [nI_1]
      refine ⟨_, f0, f2, rfl, a2, fun w' hw' k hk κ n i hi => ?_⟩
      by_cases e : w' = w
      · subst e
        exact a4 k hk κ n i hi
      · have h12 := (hP.2.2.1 w' (by omega)).2.2
        rw [a3 _ (by omega)]
        exact r2 w' (by omega) k hk κ n i hi
    · right
      have : w = W := by omega
      subst this
      refine ⟨_, ?_, f', rfl, r1, r2⟩
      unfold FX1_findReach_2
      exact if_pos (show Pl_workers PL ≤ nI w by rw [hP.1]; exact nI_le (Nat.le_refl _) (by omega))) (s := ((0 : Int32), PL)) ⟨Pl_reach PL, rfl, hN.2.2.2.1, fun w hw => by omega⟩
  refine ⟨f', ?_, q2, q3⟩
  unfold FX1_findReach
  rw [q1]
  rfl
end FIND
