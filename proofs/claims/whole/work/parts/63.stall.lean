/-! ===== a stall put down ===== -/
def up5 (f : Nat → Int32) (r : Nat) (v1 v2 v3 v4 v5 : Int32) : Nat → Int32 := upd (upd (upd (upd (upd f r v1) (r + 1) v2) (r + 2) v3) (r + 3) v4) (r + 4) v5
def seK (SK : SkT) : Nat := (Sk_eldest SK).toNatClampNeg
def skK (SK : SkT) : Nat := (Sk_kept SK).toNatClampNeg
def kpS (SK : SkT) (v1 v2 v3 v4 v5 : Int32) : SkT := (up5 (Sk_rows SK) ((seK SK + skK SK) % 30 * 5) v1 v2 v3 v4 v5, if skK SK < 30 then nI (seK SK) else nI ((seK SK + 1) % 30), if skK SK < 30 then nI (skK SK + 1) else nI 30, Sk_total SK + 1)
def SkOK (SK : SkT) : Prop := (∃ e, e < 30 ∧ Sk_eldest SK = nI e) ∧ (∃ k, k ≤ 30 ∧ Sk_kept SK = nI k) ∧ Nz 150 (Sk_rows SK)
def SegK (SK : SkT) (all : Nat → Int32) (β : Nat) : Prop := SkOK SK ∧ all (β + 322) = Sk_kept SK ∧ all (β + 323) = Sk_total SK ∧ ∀ i, i < skK SK → ∀ j, j < 5 → all (β + 324 + 5 * i + j) = Sk_rows SK ((seK SK + i) % 30 * 5 + j)
theorem Nz.up5 {f : Nat → Int32} {r : Nat} {v1 v2 v3 v4 v5 : Int32} (h : Nz 150 f) (hr : r + 4 < 150) : Nz 150 (up5 f r v1 v2 v3 v4 v5) := ((((h.up (show r < 150 by omega) v1).up (show r + 1 < 150 by omega) v2).up (show r + 2 < 150 by omega) v3).up (show r + 3 < 150 by omega) v4).up hr v5
theorem SkOK.e {SK : SkT} (h : SkOK SK) : seK SK < 30 ∧ Sk_eldest SK = nI (seK SK) := by
  obtain ⟨⟨e, he, ee⟩, -⟩ := h
  have : seK SK = e := by unfold seK; rw [ee, nI_clamp (by omega)]
  rw [this]
  exact ⟨he, ee⟩
theorem SkOK.k {SK : SkT} (h : SkOK SK) : skK SK ≤ 30 ∧ Sk_kept SK = nI (skK SK) := by
  obtain ⟨-, ⟨e, he, ee⟩, -⟩ := h
  have : skK SK = e := by unfold skK; rw [ee, nI_clamp (by omega)]
  rw [this]
  exact ⟨he, ee⟩
theorem kp_ok {SK : SkT} (h : SkOK SK) (v1 v2 v3 v4 v5 : Int32) : SkOK (kpS SK v1 v2 v3 v4 v5) := by
  have h1 := h.e
  have h2 := h.k
  refine ⟨?_, ?_, h.2.2.up5 (by omega)⟩
  · show ∃ e, e < 30 ∧ (if skK SK < 30 then nI (seK SK) else nI ((seK SK + 1) % 30)) = nI e
    by_cases c : skK SK < 30
    · exact ⟨_, h1.1, if_pos c⟩
    · exact ⟨(seK SK + 1) % 30, by omega, if_neg c⟩
  · show ∃ e, e ≤ 30 ∧ (if skK SK < 30 then nI (skK SK + 1) else nI 30) = nI e
    by_cases c : skK SK < 30
    · exact ⟨skK SK + 1, by omega, if_pos c⟩
    · exact ⟨30, by omega, if_neg c⟩
theorem keep_j {SK : SkT} {r : Nat} (hr : r + 4 < 150) (v1 v2 v3 v4 v5 : Int32) : FX4_keep_j51 v1 v2 v3 v4 v5 (nI r) SK = some (up5 (Sk_rows SK) r v1 v2 v3 v4 v5, Sk_eldest SK, Sk_kept SK, Sk_total SK + 1) := by
  unfold FX4_keep_j51
  simp only [nm]
  rw [show nI r + 1 = nI (r + 1) from nI_add r 1, show nI r + 2 = nI (r + 2) from nI_add r 2, show nI r + 3 = nI (r + 3) from nI_add r 3, show nI r + 4 = nI (r + 4) from nI_add r 4]
  refine bd_of (set_eq (by omega) (by decide)) ?_
  refine bd_of (set_eq (by omega) (by decide)) ?_
  refine bd_of (set_eq (by omega) (by decide)) ?_
  refine bd_of (set_eq (by omega) (by decide)) ?_
  refine bd_of (set_eq (by omega) (by decide)) ?_
  rfl
theorem c_keep {SK : SkT} (h : SkOK SK) (v1 v2 v3 v4 v5 : Int32) : FX4_keep SK v1 v2 v3 v4 v5 = some (kpS SK v1 v2 v3 v4 v5) := by
  have h1 := h.e
  have h2 := h.k
  unfold FX4_keep
  simp only [nm]
  rw [h1.2, h2.2, nI_add, show (30 : Int32) = nI 30 from rfl, pk_rem (by omega) (by decide) (by decide), show (5 : Int32) = nI 5 from rfl, pk_mul]
  by_cases c : skK SK < 30
  · rw [if_neg (nI_ge c (by decide)), nI_1, keep_j (by omega)]
    unfold kpS
    rw [if_pos c, if_pos c]
    show some (_, Sk_eldest SK, _, _) = _
    rw [h1.2]
  · rw [if_pos (nI_le (by omega) (by omega)), nI_1, pk_rem (by omega) (by decide) (by decide), keep_j (by omega)]
    unfold kpS
    rw [if_neg c, if_neg c]
    show some (_, _, Sk_kept SK, _) = _
    rw [h2.2, show skK SK = 30 by omega]
section STALL
variable {μ : Prop} {PL : PlT} {W : Nat} {ln : Nat → Nat} {SC : ScT} {MO : MoT} {β : Nat}
theorem u_ne {f : Nat → Int32} {i j : Nat} {v : Int32} (h : j ≠ i) : upd f i v j = f j := if_neg h
theorem u_eq {f : Nat → Int32} {i j : Nat} {v : Int32} (h : j = i) : upd f i v j = v := if_pos h
/-- what a row put down leaves as it was -/
def OutR (β w k : Nat) (all all' : Nat → Int32) : Prop := ∀ j, (j < 948 ∨ 1422 ≤ j) → j ≠ β + 322 → j ≠ β + 323 → j ≠ β + 314 + w → (j < β + 324 + 5 * k ∨ β + 324 + 5 * k + 5 ≤ j) → all' j = all j
theorem s_keep1 (h : Sim μ PL W ln SC MO β) (hβ : β + 474 ≤ 948) {w κ k : Nat} (hw : w < W) (hκ : κ < 3) (hk : k < 30) (h322 : Mo_all MO (β + 322) = nI k) : ∃ all', FX10_keepsStall_j60 (nI w) (nI κ) (hdS PL W ln SC) MO = some (sMo_all MO all') ∧ OutR β w k (Mo_all MO) all' ∧ all' (β + 322) = nI (k + 1) ∧ all' (β + 323) = Mo_all MO (β + 323) + 1 ∧ all' (β + 314 + w) = Mo_all MO (β + 314 + w) ||| ((1 : Int32) <<< (nI κ &&& 31)) ∧ all' (β + 324 + 5 * k) = Sc_tick SC ∧ all' (β + 324 + 5 * k + 1) = nI w ∧ all' (β + 324 + 5 * k + 2) = nI κ ∧ all' (β + 324 + 5 * k + 3) = bkS PL W ln SC w ∧ all' (β + 324 + 5 * k + 4) = nbS PL W ln SC w := by
  have h8 := h.W8
  have hb := h.2.2.2.2.1
  have hs := h.2.2.2.1
  unfold FX10_keepsStall_j60
  simp only [nm]
  have x322 : nI β + 322 = nI (β + 322) := nI_add β 322
  have x207 : nI β + 207 = nI (β + 207) := nI_add β 207
  have x323 : nI β + 323 = nI (β + 323) := nI_add β 323
  have xr : nI β + 324 + 5 * nI k = nI (β + 324 + 5 * k) := by rw [show (5 : Int32) = nI 5 from rfl, pk_mul, show (324 : Int32) = nI 324 from rfl, nI_add, nI_add]
  rw [hb, x322, ix_nI (by omega) (by decide), nI_clamp (show β + 322 < 2 ^ 31 by omega), h322, xr, x207, ix_nI (by omega) (by decide), ix_nI (by omega) (by decide), nI_clamp (show β + 207 < 2 ^ 31 by omega), nI_clamp (show β + 324 + 5 * k < 2 ^ 31 by omega), show nI (β + 324 + 5 * k) + 1 = nI (β + 324 + 5 * k + 1) from nI_add _ 1, show nI (β + 324 + 5 * k) + 2 = nI (β + 324 + 5 * k + 2) from nI_add _ 2, show nI (β + 324 + 5 * k) + 3 = nI (β + 324 + 5 * k + 3) from nI_add _ 3, show nI (β + 324 + 5 * k) + 4 = nI (β + 324 + 5 * k + 4) from nI_add _ 4, ix_nI (by omega) (by decide), ix_nI (by omega) (by decide), nI_clamp (show β + 324 + 5 * k + 1 < 2 ^ 31 by omega), nI_clamp (show β + 324 + 5 * k + 2 < 2 ^ 31 by omega), nI_clamp (show β + 324 + 5 * k + 3 < 2 ^ 31 by omega), nI_clamp (show β + 324 + 5 * k + 4 < 2 ^ 31 by omega), hs.2.2.1]
  generalize ha3 : upd (upd (upd (Mo_all MO) (β + 324 + 5 * k) (Sc_tick SC)) (β + 324 + 5 * k + 1) (nI w)) (β + 324 + 5 * k + 2) (nI κ) = a3
  have f3 : ∀ j, (j < β + 324 + 5 * k ∨ β + 324 + 5 * k + 3 ≤ j) → a3 j = Mo_all MO j := fun j hj => by
    rw [← ha3, u_ne (by omega), u_ne (by omega), u_ne (by omega)]
  have h3 : Sim μ PL W ln SC (sMo_all MO a3) β := h.mv hb (by omega) (fun i hi => f3 _ (by omega))
  show ∃ all', (FX10_blocker (sMo_all MO a3) (nI w) (hdS PL W ln SC)).bind _ = _ ∧ _
  obtain ⟨a4, b1, b2, b3⟩ := s_block h3 hβ hw
  rw [b1]
  simp only [Option.bind_some]
  rw [ix_nI (by omega) (by decide)]
  generalize ha5 : upd a4 (β + 324 + 5 * k + 3) (bkS PL W ln SC w) = a5
  have f5 : ∀ j, (j < 948 ∨ 1422 ≤ j) → (j < β + 324 + 5 * k ∨ β + 324 + 5 * k + 4 ≤ j) → a5 j = Mo_all MO j := fun j h1 h2 => by
    rw [← ha5, u_ne (by omega)]
    exact (b2 j h1).trans (f3 j (by omega))
  have h5 : Sim μ PL W ln SC (sMo_all MO a5) β := h.mv hb (by omega) (fun i hi => f5 _ (by omega) (by omega))
  show ∃ all', (FX10_neighbour (sMo_all MO a5) (nI w) (hdS PL W ln SC)).bind _ = _ ∧ _
  rw [s_nb h5 hw]
  simp only [Option.bind_some]
  rw [ix_nI (by omega) (by decide)]
  show ∃ all', (ix (Mo_b MO + 322) 9519 _ : Option MoT) = _ ∧ _
  rw [hb, x322, x323, ix_nI (by omega) (by decide), ix_nI (by omega) (by decide), ix_nI (by omega) (by decide), ix_nI (by omega) (by decide), show nI β + 314 + nI w = nI β + nI 314 + nI w from rfl, M_ix (by omega), M_ix (by omega), M_cl (by omega), nI_clamp (show β + 322 < 2 ^ 31 by omega), nI_clamp (show β + 323 < 2 ^ 31 by omega)]
  show ∃ all', some (sMo_all MO (upd (upd (upd (upd a5 (β + 324 + 5 * k + 4) (nbS PL W ln SC w)) (β + 322) (upd a5 (β + 324 + 5 * k + 4) (nbS PL W ln SC w) (β + 322) + 1)) (β + 323) (upd (upd a5 (β + 324 + 5 * k + 4) (nbS PL W ln SC w)) (β + 322) (upd a5 (β + 324 + 5 * k + 4) (nbS PL W ln SC w) (β + 322) + 1) (β + 323) + 1)) (β + 314 + w) (upd (upd (upd a5 (β + 324 + 5 * k + 4) (nbS PL W ln SC w)) (β + 322) (upd a5 (β + 324 + 5 * k + 4) (nbS PL W ln SC w) (β + 322) + 1)) (β + 323) (upd (upd a5 (β + 324 + 5 * k + 4) (nbS PL W ln SC w)) (β + 322) (upd a5 (β + 324 + 5 * k + 4) (nbS PL W ln SC w) (β + 322) + 1) (β + 323) + 1) (β + 314 + w) ||| ((1 : Int32) <<< (nI κ &&& 31))))) = some (sMo_all MO all') ∧ _
  have e1 : upd a5 (β + 324 + 5 * k + 4) (nbS PL W ln SC w) (β + 322) = nI k := by rw [u_ne (by omega), f5 _ (by omega) (by omega), h322]
  rw [e1, nI_1]
  have e2 : upd (upd a5 (β + 324 + 5 * k + 4) (nbS PL W ln SC w)) (β + 322) (nI (k + 1)) (β + 323) = Mo_all MO (β + 323) := by rw [u_ne (by omega), u_ne (by omega), f5 _ (by omega) (by omega)]
  rw [e2]
  have e3 : upd (upd (upd a5 (β + 324 + 5 * k + 4) (nbS PL W ln SC w)) (β + 322) (nI (k + 1))) (β + 323) (Mo_all MO (β + 323) + 1) (β + 314 + w) = Mo_all MO (β + 314 + w) := by rw [u_ne (by omega), u_ne (by omega), u_ne (by omega), f5 _ (by omega) (by omega)]
  rw [e3]
  refine ⟨_, rfl, fun j j1 j2 j3 j4 j5 => ?_, ?_, ?_, u_eq rfl, ?_, ?_, ?_, ?_, ?_⟩
  · rw [u_ne j4, u_ne j3, u_ne j2, u_ne (by omega), f5 j j1 (by omega)]
  · rw [u_ne (by omega), u_ne (by omega), u_eq rfl]
  · rw [u_ne (by omega), u_eq rfl]
  · rw [u_ne (by omega), u_ne (by omega), u_ne (by omega), u_ne (by omega), ← ha5, u_ne (by omega), b2 _ (by omega)]
    show a3 _ = _
    rw [← ha3, u_ne (by omega), u_ne (by omega), u_eq rfl]
  · rw [u_ne (by omega), u_ne (by omega), u_ne (by omega), u_ne (by omega), ← ha5, u_ne (by omega), b2 _ (by omega)]
    show a3 _ = _
    rw [← ha3, u_ne (by omega), u_eq rfl]
  · rw [u_ne (by omega), u_ne (by omega), u_ne (by omega), u_ne (by omega), ← ha5, u_ne (by omega), b2 _ (by omega)]
    show a3 _ = _
    rw [← ha3, u_eq rfl]
  · rw [u_ne (by omega), u_ne (by omega), u_ne (by omega), u_ne (by omega), ← ha5, u_eq rfl]
  · rw [u_ne (by omega), u_ne (by omega), u_ne (by omega), u_eq rfl]
/-- what a stall put down leaves as it was -/
def OutT (β w : Nat) (all all' : Nat → Int32) : Prop := ∀ j, (j < 948 ∨ 1422 ≤ j) → (j < β + 322 ∨ β + 474 ≤ j) → j ≠ β + 314 + w → all' j = all j
theorem s_keep (h : Sim μ PL W ln SC MO β) (hβ : β + 474 ≤ 948) {SK : SkT} (hK : SegK SK (Mo_all MO) β) {w κ : Nat} (hw : w < W) (hκ : κ < 3) : ∃ all', FX10_keepsStall MO (nI w) (nI κ) (hdS PL W ln SC) = some (sMo_all MO all') ∧ OutT β w (Mo_all MO) all' ∧ all' (β + 314 + w) = Mo_all MO (β + 314 + w) ||| ((1 : Int32) <<< (nI κ &&& 31)) ∧ SegK (kpS SK (Sc_tick SC) (nI w) (nI κ) (bkS PL W ln SC w) (nbS PL W ln SC w)) all' β := by
  have h8 := h.W8
  have hb := h.2.2.2.2.1
  obtain ⟨hk, k1, k2, k3⟩ := hK
  have he := hk.e
  have hkk := hk.k
  have hfin := kp_ok hk (Sc_tick SC) (nI w) (nI κ) (bkS PL W ln SC w) (nbS PL W ln SC w)
  -- behind the eldest's going
  have fin : ∀ (a1 : Nat → Int32) (q e1 : Nat), (e1 + q) % 30 = (seK SK + skK SK) % 30 → q < 30 → e1 < 30 → (skK SK < 30 → q = skK SK ∧ e1 = seK SK) → (¬ skK SK < 30 → q = 29 ∧ e1 = (seK SK + 1) % 30) → a1 (β + 322) = nI q → a1 (β + 323) = Sk_total SK → (∀ i, i < q → ∀ j, j < 5 → a1 (β + 324 + 5 * i + j) = Sk_rows SK ((e1 + i) % 30 * 5 + j)) → (∀ j, (j < β + 322 ∨ β + 474 ≤ j) → a1 j = Mo_all MO j) → ∃ all', FX10_keepsStall_j60 (nI w) (nI κ) (hdS PL W ln SC) (sMo_all MO a1) = some (sMo_all MO all') ∧ OutT β w (Mo_all MO) all' ∧ all' (β + 314 + w) = Mo_all MO (β + 314 + w) ||| ((1 : Int32) <<< (nI κ &&& 31)) ∧ SegK (kpS SK (Sc_tick SC) (nI w) (nI κ) (bkS PL W ln SC w) (nbS PL W ln SC w)) all' β := by
    intro a1 q e1 hqe hq he1 hc1 hc2 z1 z2 z3 z4
    have h1 : Sim μ PL W ln SC (sMo_all MO a1) β := h.mv hb (by omega) (fun i hi => z4 _ (by omega))
    obtain ⟨all', g0, g1, g2, g3, g4, g5, g6, g7, g8, g9⟩ := s_keep1 h1 hβ hw hκ hq z1
    refine ⟨all', g0, fun j j1 j2 j3 => (g1 j j1 (by omega) (by omega) j3 (by omega)).trans (z4 j j2), g4.trans (by rw [show Mo_all (sMo_all MO a1) (β + 314 + w) = a1 (β + 314 + w) from rfl, z4 _ (by omega)]), hfin, ?_, g3.trans (congrArg (· + 1) z2), ?_⟩
    · rw [g2]
      show nI (q + 1) = if skK SK < 30 then nI (skK SK + 1) else nI 30
      by_cases c : skK SK < 30
      · rw [if_pos c, (hc1 c).1]
      · rw [if_neg c, (hc2 c).1]
    · have ek : skK (kpS SK (Sc_tick SC) (nI w) (nI κ) (bkS PL W ln SC w) (nbS PL W ln SC w)) = q + 1 := by
        show (if skK SK < 30 then nI (skK SK + 1) else nI 30).toNatClampNeg = q + 1
        by_cases c : skK SK < 30
        · rw [if_pos c, (hc1 c).1, nI_clamp (by omega)]
        · rw [if_neg c, (hc2 c).1, nI_clamp (by omega)]
      have ee : seK (kpS SK (Sc_tick SC) (nI w) (nI κ) (bkS PL W ln SC w) (nbS PL W ln SC w)) = e1 := by
        show (if skK SK < 30 then nI (seK SK) else nI ((seK SK + 1) % 30)).toNatClampNeg = e1
        by_cases c : skK SK < 30
        · rw [if_pos c, (hc1 c).2, nI_clamp (by omega)]
        · rw [if_neg c, (hc2 c).2, nI_clamp (by omega)]
      rw [ek, ee]
      intro i hi j hj
      show _ = up5 (Sk_rows SK) ((seK SK + skK SK) % 30 * 5) (Sc_tick SC) (nI w) (nI κ) (bkS PL W ln SC w) (nbS PL W ln SC w) ((e1 + i) % 30 * 5 + j)
      unfold up5
      rw [← hqe]
      by_cases c : i = q
      · subst c
        have hj5 : j = 0 ∨ j = 1 ∨ j = 2 ∨ j = 3 ∨ j = 4 := by omega
        rcases hj5 with rfl | rfl | rfl | rfl | rfl
        · rw [u_ne (by omega), u_ne (by omega), u_ne (by omega), u_ne (by omega), u_eq (by omega)]
          exact g5
        · rw [u_ne (by omega), u_ne (by omega), u_ne (by omega), u_eq rfl]
          exact g6
        · rw [u_ne (by omega), u_ne (by omega), u_eq rfl]
          exact g7
        · rw [u_ne (by omega), u_eq rfl]
          exact g8
        · rw [u_eq rfl]
          exact g9
      · have hne : (e1 + i) % 30 ≠ (e1 + q) % 30 := by omega
        rw [u_ne (by omega), u_ne (by omega), u_ne (by omega), u_ne (by omega), u_ne (by omega), g1 _ (by omega) (by omega) (by omega) (by omega) (by omega)]
        exact z3 i (by omega) j hj
  unfold FX10_keepsStall
  simp only [nm]
  have x322 : nI β + 322 = nI (β + 322) := nI_add β 322
  rw [hb, x322, ix_nI (by omega) (by decide), nI_clamp (show β + 322 < 2 ^ 31 by omega), k1, hkk.2]
  by_cases c : skK SK = 30
  · rw [c, if_pos (show nI 30 = (30 : Int32) from rfl), show nI β + 324 + 5 = nI (β + 329) from by rw [show (324 : Int32) = nI 324 from rfl, show (5 : Int32) = nI 5 from rfl, nI_add, nI_add], show nI β + 324 = nI (β + 324) from nI_add β 324, show (145 : Int32) = nI 145 from rfl, M_copies (by omega) (by omega) (by omega)]
    simp only [Option.bind_some]
    show ∃ all', (ix (Mo_b MO + 322) 9519 _ : Option MoT) = _ ∧ _
    rw [hb, x322, ix_nI (by omega) (by decide), ix_nI (by omega) (by decide), nI_clamp (show β + 322 < 2 ^ 31 by omega)]
    show ∃ all', FX10_keepsStall_j60 (nI w) (nI κ) (hdS PL W ln SC) (sMo_all MO (upd (cpA (Mo_all MO) (β + 329) (β + 324) 145) (β + 322) (cpA (Mo_all MO) (β + 329) (β + 324) 145 (β + 322) - 1))) = _ ∧ _
    have c322 : cpA (Mo_all MO) (β + 329) (β + 324) 145 (β + 322) = nI 30 := by
      rw [show cpA (Mo_all MO) (β + 329) (β + 324) 145 (β + 322) = Mo_all MO (β + 322) from if_neg (by omega), k1, hkk.2, c]
    refine fin _ 29 ((seK SK + 1) % 30) (by omega) (by omega) (by omega) (by omega) (fun _ => ⟨rfl, rfl⟩) ?_ ?_ ?_ ?_
    · rw [u_eq rfl, c322]
      rfl
    · rw [u_ne (by omega), show cpA (Mo_all MO) (β + 329) (β + 324) 145 (β + 323) = Mo_all MO (β + 323) from if_neg (by omega), k2]
    · intro i hi j hj
      rw [u_ne (by omega), show cpA (Mo_all MO) (β + 329) (β + 324) 145 (β + 324 + 5 * i + j) = Mo_all MO (β + 329 + (β + 324 + 5 * i + j - (β + 324))) from if_pos (by omega), show β + 329 + (β + 324 + 5 * i + j - (β + 324)) = β + 324 + 5 * (i + 1) + j by omega, k3 (i + 1) (by omega) j hj]
      congr 2
      omega
    · intro j hj
      rw [u_ne (by omega)]
      exact if_neg (by omega)
  · rw [if_neg (show ¬ nI (skK SK) = (30 : Int32) from fun z => c (nI_inj (by omega) (by decide) z))]
    have := fin (Mo_all MO) (skK SK) (seK SK) rfl (by omega) he.1 (fun _ => ⟨rfl, rfl⟩) (fun z => by omega) (k1.trans hkk.2) k2 k3 (fun j _ => rfl)
    exact this
end STALL
