/-! ===== the tape ===== -/
theorem by8 (x : Int32) : ∃ c, c < 256 ∧ vp_nar .byte (x.toInt8.toInt32) = sb_b c ∧ x &&& 255 = nI c := by
  have e : x &&& 255 = nI (x.toBitVec.toNat % 2 ^ 8) := pk_and x 8 (by decide)
  refine ⟨x.toBitVec.toNat % 2 ^ 8, Nat.mod_lt _ (by decide), ?_, e⟩
  unfold sb_b
  rw [← e, vp_nar_byte, Int8.toInt8_toInt32, Int32.toInt8_and]
  congr 1
  rw [show (255 : Int32).toInt8 = -1 by decide]
  exact (Int8.and_neg_one).symm
def bv (v : Int32) (j : Nat) : Int32 := v >>> (nI (24 - 8 * j) &&& 31)
def pb (v : Int32) (j : Nat) : Int32 := vp_nar .byte ((bv v j).toInt8.toInt32)
theorem put1 {v sh : Int32} {f : Nat → Int32} {n : Nat} (h : ¬ sh < 0) (hn : n < 800) : FX5_put_3 v (sh, (f, nI n)) = some (.inl (sh + (-8), (upd f n (vp_nar .byte ((v >>> (sh &&& 31)).toInt8.toInt32)), nI (n + 1)))) := by
  unfold FX5_put_3
  refine (if_neg h).trans ?_
  refine (if_neg (show ¬ (800 : Int32) ≤ nI n from nI_ge (b := 800) hn (by decide))).trans ?_
  refine (ix_nI hn (by decide) _).trans ?_
  dsimp only [nm, Tp_length, Tp_bytes, sTp_length, sTp_bytes]
  rw [nI_clamp (by omega), nI_1]
theorem c_put {TP : TpT} {v : Int32} {n : Nat} (hl : Tp_length TP = nI n) (hn : n + 4 ≤ 800) : ∃ TP', FX5_put TP v = some TP' ∧ Tp_length TP' = nI (n + 4) ∧ (∀ i, i < n → Tp_bytes TP' i = Tp_bytes TP i) ∧ ∀ j, j < 4 → Tp_bytes TP' (n + j) = pb v j := by
  obtain ⟨f, l⟩ := TP
  have hl' : l = nI n := hl
  subst hl'
  refine ⟨(upd (upd (upd (upd f n (pb v 0)) (n + 1) (pb v 1)) (n + 1 + 1) (pb v 2)) (n + 1 + 1 + 1) (pb v 3), nI (n + 4)), ?_, rfl, fun i hi => ?_, fun j hj => ?_⟩
  · unfold FX5_put
    have s0 := put1 (v := v) (sh := 24) (f := f) (n := n) (by decide) (by omega)
    have s1 := put1 (v := v) (sh := 24 + (-8)) (f := upd f n (pb v 0)) (n := n + 1) (by decide) (by omega)
    have s2 := put1 (v := v) (sh := 24 + (-8) + (-8)) (f := upd (upd f n (pb v 0)) (n + 1) (pb v 1)) (n := n + 1 + 1) (by decide) (by omega)
    have s3 := put1 (v := v) (sh := 24 + (-8) + (-8) + (-8)) (f := upd (upd (upd f n (pb v 0)) (n + 1) (pb v 1)) (n + 1 + 1) (pb v 2)) (n := n + 1 + 1 + 1) (by decide) (by omega)
    have s4 : FX5_put_3 v (24 + (-8) + (-8) + (-8) + (-8), (upd (upd (upd (upd f n (pb v 0)) (n + 1) (pb v 1)) (n + 1 + 1) (pb v 2)) (n + 1 + 1 + 1) (pb v 3), nI (n + 1 + 1 + 1 + 1))) = some (.inr (upd (upd (upd (upd f n (pb v 0)) (n + 1) (pb v 1)) (n + 1 + 1) (pb v 2)) (n + 1 + 1 + 1) (pb v 3), nI (n + 1 + 1 + 1 + 1))) := by
      unfold FX5_put_3
      exact if_pos (show (24 : Int32) + (-8) + (-8) + (-8) + (-8) < 0 by decide)
    have q := (itr_inl s0).trans ((itr_inl s1).trans ((itr_inl s2).trans ((itr_inl s3).trans (itr_inr s4))))
    rw [q]
    rfl
  · show upd (upd (upd (upd f n (pb v 0)) (n + 1) (pb v 1)) (n + 1 + 1) (pb v 2)) (n + 1 + 1 + 1) (pb v 3) i = f i
    rw [u_ne (by omega), u_ne (by omega), u_ne (by omega), u_ne (by omega)]
  · show upd (upd (upd (upd f n (pb v 0)) (n + 1) (pb v 1)) (n + 1 + 1) (pb v 2)) (n + 1 + 1 + 1) (pb v 3) (n + j) = pb v j
    have hj4 : j = 0 ∨ j = 1 ∨ j = 2 ∨ j = 3 := by omega
    rcases hj4 with rfl | rfl | rfl | rfl
    · rw [u_ne (by omega), u_ne (by omega), u_ne (by omega), u_eq (by omega)]
    · rw [u_ne (by omega), u_ne (by omega), u_eq (by omega)]
    · rw [u_ne (by omega), u_eq (by omega)]
    · rw [u_eq (by omega)]
def vsF (v1 v2 v3 v4 v5 : Int32) (k : Nat) : Int32 := if k < 4 then v1 else if k < 8 then v2 else if k < 12 then v3 else if k < 16 then v4 else v5
def tpF (v1 v2 v3 v4 v5 : Int32) (f : Nat → Int32) (n : Nat) : Nat → Nat → Int32
  | 0 => f
  | k + 1 => upd (tpF v1 v2 v3 v4 v5 f n k) (n + k) (bv (vsF v1 v2 v3 v4 v5 k) (k % 4) &&& 255)
theorem tp_lo {v1 v2 v3 v4 v5 : Int32} {f : Nat → Int32} {n i : Nat} (hi : i < n) : ∀ k, tpF v1 v2 v3 v4 v5 f n k i = f i
  | 0 => rfl
  | k + 1 => (u_ne (by omega)).trans (tp_lo hi k)
theorem tp_at {v1 v2 v3 v4 v5 : Int32} {f : Nat → Int32} {n i : Nat} : ∀ k, i < k → tpF v1 v2 v3 v4 v5 f n k (n + i) = bv (vsF v1 v2 v3 v4 v5 i) (i % 4) &&& 255
  | 0, h => by omega
  | k + 1, h => by
    by_cases e : i = k
    · subst e
      exact u_eq rfl
    · exact (u_ne (by omega)).trans (tp_at k (by omega))
theorem sh_eq : ∀ k, k < 20 → (24 : Int32) - 8 * (nI k &&& 3) = nI (24 - 8 * (k % 4)) := by decide +kernel
theorem s_feed {MO : MoT} {v1 v2 v3 v4 v5 : Int32} {n : Nat} (hl : Mo_taped MO = nI n) (hn : n + 20 ≤ 800) : itr (FX10_feed_18 v1 v2 v3 v4 v5) ((0 : Int32), MO) = some (sMo_tape MO (tpF v1 v2 v3 v4 v5 (Mo_tape MO) n 20)) := by
  have j71 : ∀ k v, k < 20 → FX10_feed_j71 (nI k, sMo_tape MO (tpF v1 v2 v3 v4 v5 (Mo_tape MO) n k)) v = some (.inl (nI (k + 1), sMo_tape MO (upd (tpF v1 v2 v3 v4 v5 (Mo_tape MO) n k) (n + k) (bv v (k % 4) &&& 255)))) := by
    intro k v hk
    unfold FX10_feed_j71 bv
    simp only [nm]
    show ix (Mo_taped MO + nI k) 800 _ = _
    rw [hl, nI_add, ix_nI (by omega) (by decide), sh_eq k hk, nI_1]
    rw [nI_clamp (by omega)]
  refine itr_chain (fun k => (nI k, sMo_tape MO (tpF v1 v2 v3 v4 v5 (Mo_tape MO) n k))) 20 (fun k hk => ?_) ?_
  · unfold FX10_feed_18
    rw [if_neg (show ¬ (20 : Int32) ≤ nI k from nI_ge (b := 20) hk (by decide)), j71 k v1 hk, j71 k v2 hk, j71 k v3 hk, j71 k v4 hk, j71 k v5 hk]
    show _ = some (Sum.inl (nI (k + 1), sMo_tape MO (upd (tpF v1 v2 v3 v4 v5 (Mo_tape MO) n k) (n + k) (bv (vsF v1 v2 v3 v4 v5 k) (k % 4) &&& 255))))
    unfold vsF
    by_cases c4 : k < 4
    · rw [if_neg (show ¬ (4 : Int32) ≤ nI k from nI_ge (b := 4) c4 (by decide)), if_pos c4]
    rw [if_pos (show (4 : Int32) ≤ nI k from nI_le (a := 4) (by omega) (by omega)), if_neg c4]
    by_cases c8 : k < 8
    · rw [if_neg (show ¬ (8 : Int32) ≤ nI k from nI_ge (b := 8) c8 (by decide)), if_pos c8]
    rw [if_pos (show (8 : Int32) ≤ nI k from nI_le (a := 8) (by omega) (by omega)), if_neg c8]
    by_cases c12 : k < 12
    · rw [if_neg (show ¬ (12 : Int32) ≤ nI k from nI_ge (b := 12) c12 (by decide)), if_pos c12]
    rw [if_pos (show (12 : Int32) ≤ nI k from nI_le (a := 12) (by omega) (by omega)), if_neg c12]
    by_cases c16 : k < 16
    · rw [if_neg (show ¬ (16 : Int32) ≤ nI k from nI_ge (b := 16) c16 (by decide)), if_pos c16]
    rw [if_pos (show (16 : Int32) ≤ nI k from nI_le (a := 16) (by omega) (by omega)), if_neg c16]
  · unfold FX10_feed_18
    exact if_pos (show (20 : Int32) ≤ nI 20 by decide)
theorem b_feed : B_feed Rel := by
  rintro ⟨WD, PL, SC, SK, TP, HI, HS, HK, RD, PD, VW, TR, ST, VT, SF, IM⟩ MO v1 v2 v3 v4 v5 h
  have h' := h
  obtain ⟨W, ln, h1, h2, h3, h4, h5, ⟨n, n1, n2, n3, n4⟩, h7, h8, h9⟩ := h'
  have n2' : Tp_length TP = nI n := n2
  show ∃ q g, FX9_feed WD TP v1 v2 v3 v4 v5 = some q ∧ FX10_feed MO v1 v2 v3 v4 v5 = some g ∧ q.1 = g.1 ∧ Rel (WD, PL, SC, SK, q.2, HI, HS, HK, RD, PD, VW, TR, ST, VT, SF, IM) g.2
  unfold FX9_feed FX10_feed
  simp only [nm]
  rw [n2', n3, show nI n + 20 = nI (n + 20) from nI_add n 20]
  by_cases c : n + 20 ≤ 800
  · rw [if_pos (show nI (n + 20) ≤ (800 : Int32) from nI_le (b := 800) c (by decide)), if_pos (show nI (n + 20) ≤ (800 : Int32) from nI_le (b := 800) c (by decide)), s_feed n3 c, Option.bind_some]
    obtain ⟨T1, a1, a2, a3, a4⟩ := c_put (v := v1) n2' (by omega)
    obtain ⟨T2, b1, b2, b3, b4⟩ := c_put (v := v2) a2 (by omega)
    obtain ⟨T3, c1, c2, c3, c4⟩ := c_put (v := v3) b2 (by omega)
    obtain ⟨T4, d1, d2, d3, d4⟩ := c_put (v := v4) c2 (by omega)
    obtain ⟨T5, e1, e2, e3, e4⟩ := c_put (v := v5) d2 (by omega)
    have hm : nI (n + 4 + 4 + 4 + 4 + 4) = nI (n + 20) := rfl
    refine ⟨(nI (n + 20), T5), (nI (n + 20), sMo_taped (sMo_tape MO (tpF v1 v2 v3 v4 v5 (Mo_tape MO) n 20)) (nI (n + 20))), bd_of a1 (bd_of b1 (bd_of c1 (bd_of d1 (bd_of e1 ?_)))), ?_, rfl, ?_⟩
    · rw [e2]
    · show some (Mo_taped MO + 20, sMo_taped (sMo_tape MO (tpF v1 v2 v3 v4 v5 (Mo_tape MO) n 20)) (Mo_taped MO + 20)) = _
      rw [n3, show nI n + 20 = nI (n + 20) from nI_add n 20]
    · refine ⟨W, ln, h1, h2, h3.same rfl rfl, h4, h5, ⟨n + 20, c, e2.trans hm, rfl, fun i hi => ?_⟩, h7, h8, h9⟩
      by_cases hin : i < n
      · obtain ⟨x, x1, x2, x3⟩ := n4 i hin
        refine ⟨x, x1, ?_, (tp_lo hin 20).trans x3⟩
        show Tp_bytes T5 i = _
        rw [e3 i (by omega), d3 i (by omega), c3 i (by omega), b3 i (by omega), a3 i hin]
        exact x2
      · obtain ⟨k, rfl⟩ : ∃ k, i = n + k := ⟨i - n, by omega⟩
        have hk : k < 20 := by omega
        obtain ⟨x, x1, x2, x3⟩ := by8 (bv (vsF v1 v2 v3 v4 v5 k) (k % 4))
        refine ⟨x, x1, ?_, (tp_at 20 hk).trans x3⟩
        rw [← x2]
        show Tp_bytes T5 (n + k) = pb (vsF v1 v2 v3 v4 v5 k) (k % 4)
        unfold vsF
        by_cases k4 : k < 4
        · rw [if_pos k4, e3 _ (by omega), d3 _ (by omega), c3 _ (by omega), b3 _ (by omega), a4 k k4, Nat.mod_eq_of_lt k4]
        rw [if_neg k4]
        by_cases k8 : k < 8
        · rw [if_pos k8, e3 _ (by omega), d3 _ (by omega), c3 _ (by omega), show n + k = n + 4 + (k % 4) by omega, b4 (k % 4) (by omega)]
        rw [if_neg k8]
        by_cases k12 : k < 12
        · rw [if_pos k12, e3 _ (by omega), d3 _ (by omega), show n + k = n + 4 + 4 + (k % 4) by omega, c4 (k % 4) (by omega)]
        rw [if_neg k12]
        by_cases k16 : k < 16
        · rw [if_pos k16, e3 _ (by omega), show n + k = n + 4 + 4 + 4 + (k % 4) by omega, d4 (k % 4) (by omega)]
        rw [if_neg k16, show n + k = n + 4 + 4 + 4 + 4 + (k % 4) by omega, e4 (k % 4) (by omega)]
  · rw [if_neg (show ¬ nI (n + 20) ≤ (800 : Int32) from nI_ge (a := 800) (by omega) (by omega)), if_neg (show ¬ nI (n + 20) ≤ (800 : Int32) from nI_ge (a := 800) (by omega) (by omega))]
    exact ⟨_, _, rfl, rfl, rfl, h⟩
