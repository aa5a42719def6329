/-! ===== numbers; a token on both sides ===== -/
def nuN2 (C : Nat → Nat) (s : Nat) : Nat → Nat
  | 0 => 0
  | i + 1 => 10 * nuN2 C s i + (C (s + i) - 48)
section TOKEN
variable {C : Nat → Nat} {N : Nat} {TP : TpT} {MO : MoT} {RD : RdT}
theorem number_both (hT : TapM C N TP) (hM : RefM C N MO) {s : Nat} (hs : s < N) {t t' : Int32} : ∃ m w, s + m ≤ N ∧ (∀ j, j < m → 48 ≤ C (s + j) ∧ C (s + j) ≤ 57) ∧ itr (FX2_scanNumber_5 TP) (rdT RD t (nI s) 0 (nI s)) = some (rdT RD t (nI s) w (nI (s + m))) ∧ (m ≤ 2 → w = nI (nuN2 C s m)) ∧ itr FX10_takes_170 (moT MO t' (nI s) 0 (nI s)) = some (moT MO t' (nI s) (lN (nuN2 C s (min m 2))) (nI (s + m))) ∧ (diB (C s) = true → 0 < m) := by
  have hN := hT.1
  obtain ⟨e, e', q1, q2, m, w, m1, m2, rfl, mw, rfl, m3⟩ := itr_sim (f := FX2_scanNumber_5 TP) (g := FX10_takes_170) (Q := fun e e' => ∃ m w, s + m ≤ N ∧ (∀ j, j < m → 48 ≤ C (s + j) ∧ C (s + j) ≤ 57) ∧ e = rdT RD t (nI s) w (nI (s + m)) ∧ (m ≤ 2 → w = nI (nuN2 C s m)) ∧ e' = moT MO t' (nI s) (lN (nuN2 C s (min m 2))) (nI (s + m)) ∧ (diB (C s) = true → 0 < m)) (fun i x x' => ∃ w, s + i ≤ N ∧ (∀ j, j < i → 48 ≤ C (s + j) ∧ C (s + j) ≤ 57) ∧ x = rdT RD t (nI s) w (nI (s + i)) ∧ (i ≤ 2 → w = nI (nuN2 C s i)) ∧ x' = moT MO t' (nI s) (lN (nuN2 C s (min i 2))) (nI (s + i))) (N - s) (by
    rintro i x x' hi ⟨w, hpi, hl, rfl, hw, rfl⟩
    have hM' : RefM C N (moT MO t' (nI s) (lN (nuN2 C s (min i 2))) (nI (s + i))) := hM
    by_cases c : s + i < N
    · have hb := (hT.2.2 (s + i) c).1
      have f1 : FX2_scanNumber_5 TP (rdT RD t (nI s) w (nI (s + i))) = if diB (C (s + i)) = true then some (Sum.inl (rdT RD t (nI s) (w * 10 + sb_b (C (s + i)) - 48) (nI (s + (i + 1))))) else some (Sum.inr (rdT RD t (nI s) w (nI (s + i)))) := by
        unfold FX2_scanNumber_5
        rw [hT.2.1]
        refine (if_neg (nI_ge c (by omega))).trans ?_
        refine bd_of (c_byte hT c) ?_
        refine bd_of (di_c _ hb) ?_
        cases diB (C (s + i))
        · exact (if_pos bI_f).trans (if_neg (by decide)).symm
        · refine (if_neg bI_t).trans (Eq.trans ?_ (if_pos rfl).symm)
          refine bd_of (c_byte hT c) ?_
          exact congrArg (fun z => some (Sum.inl (rdT RD t (nI s) (w * 10 + sb_b (C (s + i)) - 48) z))) (nI_1 (s + i))
      have f2 : FX10_takes_170 (moT MO t' (nI s) (lN (nuN2 C s (min i 2))) (nI (s + i))) = if diB (C (s + i)) = true then some (Sum.inl (moT MO t' (nI s) (lN (nuN2 C s (min (i + 1) 2))) (nI (s + (i + 1))))) else some (Sum.inr (moT MO t' (nI s) (lN (nuN2 C s (min i 2))) (nI (s + i)))) := by
        unfold FX10_takes_170
        refine bd_of (m_byte hM' hN c) ?_
        refine bd_of (di_m _ hb) ?_
        cases hle : diB (C (s + i))
        · exact (if_pos bI_f).trans (if_neg (by decide)).symm
        · have hlr : 48 ≤ C (s + i) ∧ C (s + i) ≤ 57 := of_decide_eq_true hle
          refine (if_neg bI_t).trans (Eq.trans ?_ (if_pos rfl).symm)
          have ed : nI (s + i) - nI s = nI i := by rw [pk_sub (by omega)]; congr 1; omega
          by_cases c9 : i < 2
          · refine (if_neg (show ¬ (2 : Int32) ≤ nI (s + i) - nI s from by rw [ed]; exact nI_ge (b := 2) c9 (by decide))).trans ?_
            refine bd_of (m_byte hM' hN c) ?_
            have e1 : 10 * lN (nuN2 C s (min i 2)) + (nI (C (s + i))).toInt64 - 48 = lN (nuN2 C s (min (i + 1) 2)) := by
              rw [Nat.min_eq_left (by omega), Nat.min_eq_left (by omega), nI_l (by omega), show (10 : Int64) = lN 10 from rfl, lN_mul, lN_add, show (48 : Int64) = lN 48 from rfl, lN_sub (by omega)]
              congr 1
              show _ = 10 * nuN2 C s i + (C (s + i) - 48)
              omega
            show some (Sum.inl (moT MO t' (nI s) (10 * lN (nuN2 C s (min i 2)) + (nI (C (s + i))).toInt64 - 48) (nI (s + i) + 1))) = _
            rw [e1, nI_1]
            rfl
          · refine (if_pos (show (2 : Int32) ≤ nI (s + i) - nI s from by rw [ed]; exact nI_le (a := 2) (by omega) (by omega))).trans ?_
            show some (Sum.inl (moT MO t' (nI s) (lN (nuN2 C s (min i 2))) (nI (s + i) + 1))) = _
            rw [nI_1, Nat.min_eq_right (show 2 ≤ i by omega), Nat.min_eq_right (show 2 ≤ i + 1 by omega)]
            rfl
      cases hle : diB (C (s + i))
      · right
        rw [hle, if_neg (by decide)] at f1 f2
        refine ⟨_, _, f1, f2, i, w, hpi, hl, rfl, hw, rfl, fun z => ?_⟩
        cases i with
        | zero =>
          rw [Nat.add_zero, z] at hle
          exact absurd hle (by decide)
        | succ i => omega
      · left
        rw [hle, if_pos rfl] at f1 f2
        have hlr : 48 ≤ C (s + i) ∧ C (s + i) ≤ 57 := of_decide_eq_true hle
        refine ⟨by omega, _, _, f1, f2, _, by omega, fun j hj => ?_, rfl, fun h2 => ?_, rfl⟩
        · by_cases e : j = i
          · subst e
            exact hlr
          · exact hl j (by omega)
        · rw [hw (by omega), sb_lo _ (by omega), show (10 : Int32) = nI 10 from rfl, pk_mul, nI_add, show (48 : Int32) = nI 48 from rfl, pk_sub (by omega)]
          congr 1
          show _ = 10 * nuN2 C s i + (C (s + i) - 48)
          omega
    · right
      refine ⟨_, _, ?_, ?_, i, w, hpi, hl, rfl, hw, rfl, fun z => by omega⟩
      · unfold FX2_scanNumber_5
        rw [hT.2.1]
        exact if_pos (nI_le (by omega) (by omega))
      · unfold FX10_takes_170
        refine bd_of (m_byte_e hM' (by omega) (by omega)) ?_
        refine bd_of di_m1 ?_
        exact if_pos bI_f) (s := rdT RD t (nI s) 0 (nI s)) (s' := moT MO t' (nI s) 0 (nI s)) ⟨0, by omega, fun j hj => by omega, rfl, fun _ => rfl, rfl⟩
  exact ⟨m, w, m1, m2, q1, mw, q2, m3⟩
/-- what both have of a token -/
def TK (N : Nat) (t t' v : Int32) (v' : Int64) (s e : Nat) : Prop := s ≤ e ∧ e ≤ N ∧ ((t = 0 ∧ t' = 0 ∧ s = N) ∨ (s < e ∧ ((t = 1 ∧ t' = 1 ∧ ∃ idx, v = oI idx ∧ WordR idx v') ∨ (t = 2 ∧ t' = 2 ∧ ∃ n, n < 100 ∧ v = nI n ∧ v' = lN n) ∨ (t = 3 ∧ t' = 3 ∧ v' = 59) ∨ (t = 4 ∧ t' = 3 ∧ v' = 44) ∨ (t = 5 ∧ t' = 4))))
theorem scan_both (hT : TapM C N TP) (hM : RefM C N MO) {p : Nat} (hp : p ≤ N) (h1 : Rd_next RD = nI p) (h2 : Mo_next MO = nI p) : ∃ t t' v v' s e, FX2_scan RD TP = some (rdT RD t (nI s) v (nI e)) ∧ FX10_takes MO = some (moT MO t' (nI s) v' (nI e)) ∧ p ≤ s ∧ TK N t t' v v' s e := by
  have hN := hT.1
  obtain ⟨d0, d1, d2, d3, d4, d5, d6, d7⟩ := RD
  have h1' : d6 = nI p := h1
  subst h1'
  obtain ⟨a0, a1, a2, a3, a4, a5, a6, a7, a8, a9, a10, a11, a12, a13, a14, a15, a16⟩ := MO
  have h2' : a12 = nI p := h2
  subst h2'
  obtain ⟨s, s1, s2, s3, s4, s5⟩ := skip_both (RD := (d0, d1, d2, d3, d4, d5, nI p, d7)) (MO := (a0, a1, a2, a3, a4, a5, a6, a7, a8, a9, a10, a11, nI p, a13, a14, a15, a16)) (t := d3) (st := d4) (v := d5) (t' := a13) (ta := a14) (v' := a15) hT hM hp
  by_cases hsN : s < N
  · have hb := (hT.2.2 s hsN).1
    have hM' : ∀ t ta v n, RefM C N (moT (a0, a1, a2, a3, a4, a5, a6, a7, a8, a9, a10, a11, nI p, a13, a14, a15, a16) t ta v n) := fun _ _ _ _ => hM
    -- the class, ahead of its cases
    have k1 : FX2_scan (d0, d1, d2, d3, d4, d5, nI p, d7) TP = if leB (C s) = true then FX2_scanWord (rdT (d0, d1, d2, d3, d4, d5, nI p, d7) d3 (nI s) d5 (nI s)) TP else if diB (C s) = true then FX2_scanNumber (rdT (d0, d1, d2, d3, d4, d5, nI p, d7) d3 (nI s) d5 (nI s)) TP else some (rdT (d0, d1, d2, d3, d4, d5, nI p, d7) (if C s = 59 then 3 else if C s = 44 then 4 else 5) (nI s) d5 (nI (s + 1))) := by
      unfold FX2_scan
      refine bd_of s3 ?_
      refine bd_of (c_byte hT hsN) ?_
      rw [hT.2.1]
      refine (if_pos (nI_lt hsN (by omega))).trans ?_
      refine bd_of (le_c _ hb) ?_
      cases leB (C s)
      · refine (if_pos bI_f).trans (Eq.trans ?_ (if_neg (by decide)).symm)
        refine bd_of (di_c _ hb) ?_
        cases diB (C s)
        · refine (if_pos bI_f).trans (Eq.trans ?_ (if_neg (by decide)).symm)
          dsimp only [nm, Rd_next, sRd_next, sRd_start, sRd_token]
          rw [nI_1]
          by_cases z1 : C s = 59
          · rw [if_pos ((sb_59 _ hb).mpr z1), if_pos z1]
          · rw [if_neg (fun y => z1 ((sb_59 _ hb).mp y)), if_neg z1]
            by_cases z2 : C s = 44
            · rw [if_pos ((sb_44 _ hb).mpr z2), if_pos z2]
            · rw [if_neg (fun y => z2 ((sb_44 _ hb).mp y)), if_neg z2]
        · refine (if_neg bI_t).trans (Eq.trans ?_ (if_pos rfl).symm)
          show (FX2_scanNumber (rdT (d0, d1, d2, d3, d4, d5, nI p, d7) d3 (nI s) d5 (nI s)) TP).bind _ = _
          generalize FX2_scanNumber _ _ = z
          cases z <;> rfl
      · refine (if_neg bI_t).trans (Eq.trans ?_ (if_pos rfl).symm)
        show (FX2_scanWord (rdT (d0, d1, d2, d3, d4, d5, nI p, d7) d3 (nI s) d5 (nI s)) TP).bind _ = _
        generalize FX2_scanWord _ _ = z
        cases z <;> rfl
    have k2 : FX10_takes (a0, a1, a2, a3, a4, a5, a6, a7, a8, a9, a10, a11, nI p, a13, a14, a15, a16) = if leB (C s) = true then (itr FX10_takes_80 (moT (a0, a1, a2, a3, a4, a5, a6, a7, a8, a9, a10, a11, nI p, a13, a14, a15, a16) a13 (nI s) 0 (nI s))).bind (fun u => some (sMo_token u 1)) else if diB (C s) = true then (itr FX10_takes_170 (moT (a0, a1, a2, a3, a4, a5, a6, a7, a8, a9, a10, a11, nI p, a13, a14, a15, a16) a13 (nI s) 0 (nI s))).bind (fun u => if Mo_next u - Mo_tokenAt u ≤ 2 then some (sMo_token u 2) else some (sMo_token u 4)) else some (moT (a0, a1, a2, a3, a4, a5, a6, a7, a8, a9, a10, a11, nI p, a13, a14, a15, a16) (if C s = 59 then 3 else if C s = 44 then 3 else 4) (nI s) (lN (C s)) (nI (s + 1))) := by
      unfold FX10_takes
      refine bd_of s4 ?_
      refine bd_of (m_byte (hM' _ _ _ _) hN hsN) ?_
      refine (if_pos (nI_pos' (by omega))).trans ?_
      refine bd_of (le_m _ hb) ?_
      cases leB (C s)
      · refine (if_pos bI_f).trans (Eq.trans ?_ (if_neg (by decide)).symm)
        refine bd_of (di_m _ hb) ?_
        cases diB (C s)
        · refine (if_pos bI_f).trans (Eq.trans ?_ (if_neg (by decide)).symm)
          dsimp only [nm, Mo_next, sMo_next, sMo_tokenAt, sMo_token, sMo_value]
          rw [nI_1, nI_l (by omega)]
          by_cases z1 : C s = 59
          · rw [if_pos (show nI (C s) = 59 from by rw [z1]; rfl), if_pos z1]
          · rw [if_neg (show ¬ nI (C s) = 59 from fun y => z1 (nI_inj (b := 59) (by omega) (by decide) y)), if_neg z1]
            by_cases z2 : C s = 44
            · rw [if_pos (show nI (C s) = 44 from by rw [z2]; rfl), if_pos z2]
            · rw [if_neg (show ¬ nI (C s) = 44 from fun y => z2 (nI_inj (b := 44) (by omega) (by decide) y)), if_neg z2]
        · exact (if_neg bI_t).trans (if_pos rfl).symm
      · exact (if_neg bI_t).trans (if_pos rfl).symm
    cases hle : leB (C s)
    · rw [hle, if_neg (by decide)] at k1 k2
      cases hdi : diB (C s)
      · rw [hdi, if_neg (by decide)] at k1 k2
        refine ⟨_, _, _, _, s, s + 1, k1, k2, s1, by omega, by omega, Or.inr ⟨by omega, ?_⟩⟩
        by_cases z1 : C s = 59
        · rw [if_pos z1, if_pos z1, z1]
          exact Or.inr (Or.inr (Or.inl ⟨rfl, rfl, rfl⟩))
        · rw [if_neg z1, if_neg z1]
          by_cases z2 : C s = 44
          · rw [if_pos z2, if_pos z2, z2]
            exact Or.inr (Or.inr (Or.inr (Or.inl ⟨rfl, rfl, rfl⟩)))
          · rw [if_neg z2, if_neg z2]
            exact Or.inr (Or.inr (Or.inr (Or.inr ⟨rfl, rfl⟩)))
      · rw [hdi, if_pos rfl] at k1 k2
        obtain ⟨m, w, m1, m2, m3, m4, m5, m6⟩ := number_both (RD := (d0, d1, d2, d3, d4, d5, nI p, d7)) (MO := (a0, a1, a2, a3, a4, a5, a6, a7, a8, a9, a10, a11, nI p, a13, a14, a15, a16)) (t := d3) (t' := a13) hT hM hsN
        have ed : nI (s + m) - nI s = nI m := by rw [pk_sub (by omega)]; congr 1; omega
        have hm0 := m6 hdi
        rw [m5, Option.bind_some] at k2
        have k3 : FX2_scanNumber (rdT (d0, d1, d2, d3, d4, d5, nI p, d7) d3 (nI s) d5 (nI s)) TP = if 2 < nI m then some (rdT (d0, d1, d2, d3, d4, d5, nI p, d7) 5 (nI s) w (nI (s + m))) else some (rdT (d0, d1, d2, d3, d4, d5, nI p, d7) 2 (nI s) w (nI (s + m))) := by
          unfold FX2_scanNumber
          refine bd_of m3 ?_
          dsimp only [nm, Rd_next, Rd_start, sRd_token]
          rw [ed]
        rw [k3] at k1
        dsimp only [Mo_next, Mo_tokenAt] at k2
        rw [ed] at k2
        by_cases z : m ≤ 2
        · rw [if_neg (show ¬ (2 : Int32) < nI m from nI_nlt (a := 2) z (by decide))] at k1
          rw [if_pos (show nI m ≤ (2 : Int32) from nI_le (b := 2) z (by decide))] at k2
          refine ⟨_, _, _, _, s, s + m, k1, k2, s1, by omega, m1, Or.inr ⟨by omega, Or.inr (Or.inl ⟨rfl, rfl, nuN2 C s m, ?_, m4 z, ?_⟩)⟩⟩
          · have hz : m = 1 ∨ m = 2 := by omega
            rcases hz with rfl | rfl
            · have := m2 0 (by omega)
              show 10 * 0 + (C (s + 0) - 48) < 100
              omega
            · have := m2 0 (by omega)
              have := m2 1 (by omega)
              show 10 * (10 * 0 + (C (s + 0) - 48)) + (C (s + 1) - 48) < 100
              omega
          · rw [Nat.min_eq_left z]
        · rw [if_pos (show (2 : Int32) < nI m from nI_lt (a := 2) (by omega) (by omega))] at k1
          rw [if_neg (show ¬ nI m ≤ (2 : Int32) from nI_ge (a := 2) (by omega) (by omega))] at k2
          exact ⟨_, _, _, _, s, s + m, k1, k2, s1, by omega, m1, Or.inr ⟨by omega, Or.inr (Or.inr (Or.inr (Or.inr ⟨rfl, rfl⟩)))⟩⟩
    · rw [hle, if_pos rfl] at k1 k2
      obtain ⟨m, m1, m2, m3, m4, m5⟩ := word_both (RD := (d0, d1, d2, d3, d4, d5, nI p, d7)) (MO := (a0, a1, a2, a3, a4, a5, a6, a7, a8, a9, a10, a11, nI p, a13, a14, a15, a16)) (t := d3) (v := d5) (t' := a13) hT hM hsN
      have hm0 := m5 hle
      rw [m4, Option.bind_some] at k2
      have k3 : FX2_scanWord (rdT (d0, d1, d2, d3, d4, d5, nI p, d7) d3 (nI s) d5 (nI s)) TP = some (rdT (d0, d1, d2, d3, d4, d5, nI p, d7) 1 (nI s) (oI (wix C s m 14)) (nI (s + m))) := by
        unfold FX2_scanWord
        refine bd_of m3 ?_
        exact bd_of (c_word (RD := (d0, d1, d2, d3, d4, d5, nI p, d7)) (t := 1) hT m1 m2) rfl
      rw [k3] at k1
      exact ⟨_, _, _, _, s, s + m, k1, k2, s1, by omega, m1, Or.inr ⟨by omega, Or.inl ⟨rfl, rfl, _, rfl, word_r m2⟩⟩⟩
  · have hsN' : s = N := by omega
    have hM' : ∀ t ta v n, RefM C N (moT (a0, a1, a2, a3, a4, a5, a6, a7, a8, a9, a10, a11, nI p, a13, a14, a15, a16) t ta v n) := fun _ _ _ _ => hM
    refine ⟨0, 0, d5, 0, s, s, ?_, ?_, s1, Nat.le_refl _, s2, Or.inl ⟨rfl, rfl, hsN'⟩⟩
    · unfold FX2_scan
      refine bd_of s3 ?_
      refine bd_of (c_byte_e hT (p := s) (by omega) (by omega)) ?_
      rw [hT.2.1]
      exact if_neg (nI_nlt (by omega) (by omega))
    · unfold FX10_takes
      refine bd_of s4 ?_
      refine bd_of (m_byte_e (hM' _ _ _ _) (p := s) (by omega) (by omega)) ?_
      dsimp only [nm]
      rw [if_neg (show ¬ (0 : Int32) ≤ -1 by decide)]
end TOKEN
