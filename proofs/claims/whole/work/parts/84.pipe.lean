/-! ===== a pipe's line ===== -/
theorem set_out {n : Nat} {f : Nat → Int32} {v x : Int32} (h : v < 0 ∨ nI n ≤ v) : FX9_set n f v x = some f := by
  unfold FX9_set
  by_cases c : v < 0
  · rw [if_pos c]
  · rw [if_neg c]
    exact if_pos (by rcases h with z | z; exact absurd z c; exact z)
section PIPE
variable {C : Nat → Nat} {N : Nat} {TP : TpT} {MO0 MO : MoT} {RD : RdT} {PL : PlT}
abbrev ppT (RD : RdT) (v : Int32) : RdT := sRd_word (sRd_pipeTold RD v) 14
theorem pipe2 (hT : TapM C N TP) (hM : RefM C N MO0) {i s e n x : Nat} {t t' v : Int32} {v' : Int64} (hA : At N TP RD MO t t' v v' s e) (hI : InvL MO0 RD PL MO i s) (hw : Rd_word RD = nI 14) (hp : Rd_pipeTold RD = nI n) (hn : n < 100) (hx : x < 4) (hxn : Rd_fault RD = 0 → n < 4 ∧ x = n) : LineRes N TP MO0 2 i RD PL ((FX10_numeral MO (nI 1) (nI 9)).bind fun r23 => ix (nI (1425 + x)) 9519 (tlM (sMo_all r23.2 (upd (Mo_all r23.2) (1425 + x) r23.1)))) s := by
  obtain ⟨⟨j1, j2, j3, j4, j5, j6, j7⟩, jS⟩ := hI
  have hN := hT.1
  have hle := hA.2.2.2.2.2.le
  by_cases d : t = 2
  · have d' : t' = 2 := by
      rcases hA.2.2.2.2.2.num with ⟨-, z, -⟩ | ⟨z, -⟩
      · exact z
      · exact absurd d z
    subst d d'
    have hlt := hA.2.2.2.2.2.lt (by decide)
    obtain ⟨m, F2, P2, K2, Q2, k0, k1, k2, k3, k4⟩ := num_yes (PL := PL) (a := 1) (b := 9) (wd := 14) j2 hA (by omega) j4 hw (by decide) (by decide) (by decide) (by decide) (by decide)
    obtain ⟨rr, h1, h2, h3⟩ : ∃ rr, FX9_set 4 (Pl_rooms PL) (nI n) (nI m) = some rr ∧ (n < 4 → rr = upd (Pl_rooms PL) n (nI m)) ∧ (Nz 4 (Pl_rooms PL) → Nz 4 rr) := by
      by_cases z : n < 4
      · exact ⟨_, set_eq z (by decide), fun _ => rfl, fun y => y.up z _⟩
      · exact ⟨_, set_out (Or.inr (nI_le (by omega) (by omega))), fun y => absurd y z, fun y => y⟩
    have q2 : FX2_takeNumber (rdT RD 2 (nI s) v (nI e)) PL = some (3, ftT (rdT RD 2 (nI s) (nI m) (nI e)) F2 P2, sPl_rooms PL rr) := by
      rw [k1]
      unfold FX2_takeNumber_j39
      dsimp only [nm]
      rw [show Rd_word (ftT (rdT RD 2 (nI s) (nI m) (nI e)) F2 P2) = nI 14 from hw, if_neg (by decide), if_neg (by decide), if_neg (by decide), if_pos (by decide), show Rd_pipeTold (ftT (rdT RD 2 (nI s) (nI m) (nI e)) F2 P2) = nI n from hp]
      exact bd_of h1 rfl
    have g3 := r_go (st := 2) (i := nI i) rfl (by omega) hA.1 (fun z => absurd z.1 (by decide)) (fol_num q2) (by decide)
    obtain ⟨t3, t3', v3, v3', s3, e3, r1, r2, r3⟩ := next_at (RD := ftT (rdT RD 2 (nI s) (nI m) (nI e)) F2 P2) (MO := alM MO K2 Q2) hT (j3.ref hM) hle.2 rfl hA.2.2.2.2.1
    refine LineRes.go g3 (show s ≤ s3 by omega) ?_
    rw [k2, r1]
    simp only [Option.bind_some]
    rw [ix_nI (by omega) (by decide)]
    show LineRes N TP MO0 3 (i + 1) (ftT (rdT RD 2 (nI s) (nI m) (nI e)) F2 P2) (sPl_rooms PL rr) (tlM (sMo_all (moT (alM MO K2 Q2) t3' (nI s3) v3' (nI e3)) (upd (Mo_all MO) (1425 + x) (if 1 ≤ m ∧ m ≤ 9 then nI m else nI 1)))) s3
    have a1 : ∀ j, j ≠ 1425 + x → upd (Mo_all MO) (1425 + x) (if 1 ≤ m ∧ m ≤ 9 then nI m else nI 1) j = Mo_all MO j := fun j hj => u_ne hj
    have a2 : upd (Mo_all MO) (1425 + x) (if 1 ≤ m ∧ m ≤ 9 then nI m else nI 1) (1425 + x) = (if 1 ≤ m ∧ m ≤ 9 then nI m else nI 1) := u_eq rfl
    generalize upd (Mo_all MO) (1425 + x) (if 1 ≤ m ∧ m ≤ 9 then nI m else nI 1) = A at a1 a2 ⊢
    refine tail_both hT hM (MO := sMo_all (moT (alM MO K2 Q2) t3' (nI s3) v3' (nI e3)) A) r3 ⟨⟨by omega, j2, ⟨j3.1, j3.2.1, j3.2.2.1, j3.2.2.2.1, j3.2.2.2.2.1, j3.2.2.2.2.2.1, fun j hj => (a1 j (by omega)).trans (j3.2.2.2.2.2.2 j hj)⟩, k3.up (by omega), ⟨j5.1, j5.2.1, j5.2.2.1, j5.2.2.2.1, j5.2.2.2.2.1, j5.2.2.2.2.2.1, h3 j5.2.2.2.2.2.2⟩, ?_, ?_⟩, fun hz => ?_⟩ (Or.inl rfl)
    · obtain ⟨nm, y1, y2⟩ := j6
      exact ⟨nm, y1, by omega⟩
    · obtain ⟨Wm, y1, y2⟩ := j7
      exact ⟨Wm, y1, (a1 1422 (by omega)).trans y2⟩
    · obtain ⟨z1, z2⟩ := k4 hz
      obtain ⟨z4, exx⟩ := hxn z1
      obtain ⟨W, ln, ⟨y1, y2, y3, y4, y5, y6, y7⟩, y8⟩ := jS z1
      rw [if_pos z2] at a2
      rw [h2 (by omega)]
      refine ⟨W, ln, ⟨y1, fun w hw k hk => ?_, fun p hp => ?_, ⟨(a1 1423 (by omega)).trans y4.1, y4.2⟩, ⟨(a1 1424 (by omega)).trans y5.1, y5.2⟩, fun i hi hi' => (a1 _ (by omega)).trans (y6 i hi hi'), y7⟩, y8.1, y8.2.1, (a1 1422 (by omega)).trans y8.2.2.1, fun w hw => (a1 _ (by omega)).trans (y8.2.2.2.1 w hw), y8.2.2.2.2⟩
      · obtain ⟨x1, x2, x3⟩ := y2 w hw k hk
        have := (y1 w hw).2
        exact ⟨(a1 _ (by omega)).trans x1, (a1 _ (by omega)).trans x2, x3⟩
      · show A (1425 + p) = upd (Pl_rooms PL) n (nI m) p
        by_cases ep : p = n
        · rw [u_eq ep, ep, ← exx]
          exact a2
        · rw [u_ne ep]
          exact (a1 _ (by omega)).trans (y3 p hp)
  · obtain ⟨k1, k2⟩ := num_no (PL := PL) (a := 1) (b := 9) j2 hA d
    rw [k1]
    simp only [Option.bind_some]
    rw [ix_nI (by omega) (by decide)]
    refine Or.inl ⟨_, PL, _, r_bad rfl (by omega) hA.1 (fun z => absurd z.2 (by decide)) k2 rfl, j5.2.2, tl_bad rfl, rfl, rfl, rfl, ?_⟩
    exact up_keep (MO := bdM MO (nI s)) j3 (by omega)
/-- a word that opens a line with numbers -/
theorem line_open (hT : TapM C N TP) (hM : RefM C N MO0) {i s e k : Nat} {v' : Int64} (hk : k = 10 ∨ k = 11 ∨ k = 12) (hA : At N TP RD MO 1 1 (nI k) v' s e) (hI : InvL MO0 RD PL MO i s) : ∃ RD1 MO1 t1 t1' v1 v1' s1 e1, itr (FX2_read_29 TP) (0, 1, nI i, RD, PL) = itr (FX2_read_29 TP) (2, 1, nI (i + 1), RD1, PL) ∧ FX10_takes MO = some MO1 ∧ At N TP RD1 MO1 t1 t1' v1 v1' s1 e1 ∧ InvL MO0 RD1 PL MO1 (i + 1) s1 ∧ Rd_word RD1 = nI k ∧ s < s1 := by
  obtain ⟨⟨j1, j2, j3, j4, j5, j6, j7⟩, jS⟩ := hI
  have hN := hT.1
  have hle := hA.2.2.2.2.2.le
  have hlt := hA.2.2.2.2.2.lt (by decide)
  obtain ⟨t1, t1', v1, v1', s1, e1, n1, n2, n3⟩ := next_at (RD := wdT (rdT RD 1 (nI s) (nI k) (nI e)) (nI k)) hT (j3.ref hM) hle.2 rfl hA.2.2.2.2.1
  have g1 := r_go (PL := PL) (st := 0) (i := nI i) rfl (by omega) hA.1 (fun z => absurd z.1 (by decide)) (open_val hk) (by decide)
  refine ⟨_, _, t1, t1', v1, v1', s1, e1, g1, n1, n3, ⟨⟨by omega, j2, j3, j4.up (by omega), j5, ?_, j7⟩, jS⟩, rfl, by omega⟩
  obtain ⟨nm, y1, y2⟩ := j6
  exact ⟨nm, y1, by omega⟩
theorem pipe1 (hT : TapM C N TP) (hM : RefM C N MO0) {i s e : Nat} {t t' v : Int32} {v' : Int64} (hA : At N TP RD MO t t' v v' s e) (hI : InvL MO0 RD PL MO i s) (hw : Rd_word RD = nI 12) : LineRes N TP MO0 2 i RD PL ((FX10_numeral MO (nI 0) (nI 3)).bind fun r22 => (FX10_numeral r22.2 (nI 1) (nI 9)).bind fun r23 => ix (1425 + r22.1) 9519 (tlM (sMo_all r23.2 (upd (Mo_all r23.2) (1425 + r22.1).toNatClampNeg r23.1)))) s := by
  obtain ⟨⟨j1, j2, j3, j4, j5, j6, j7⟩, jS⟩ := hI
  have hN := hT.1
  have hle := hA.2.2.2.2.2.le
  by_cases c : t = 2
  · have c' : t' = 2 := by
      rcases hA.2.2.2.2.2.num with ⟨-, z, -⟩ | ⟨z, -⟩
      · exact z
      · exact absurd c z
    subst c c'
    have hlt := hA.2.2.2.2.2.lt (by decide)
    obtain ⟨n, F, P, K, Q, m0, m1, m2, m3, m4⟩ := num_yes (PL := PL) (a := 0) (b := 3) (wd := 12) j2 hA (by omega) j4 hw (by decide) (by decide) (by decide) (by decide) (by decide)
    have q1 : FX2_takeNumber (rdT RD 2 (nI s) v (nI e)) PL = some (2, ppT (ftT (rdT RD 2 (nI s) (nI n) (nI e)) F P) (nI n), PL) := by
      rw [m1]
      unfold FX2_takeNumber_j39
      dsimp only [nm]
      rw [show Rd_word (ftT (rdT RD 2 (nI s) (nI n) (nI e)) F P) = nI 12 from hw, if_neg (by decide), if_neg (by decide), if_pos (by decide)]
    have g2 := r_go (st := 2) (i := nI i) rfl (by omega) hA.1 (fun z => absurd z.1 (by decide)) (fol_num q1) (by decide)
    obtain ⟨t2, t2', v2, v2', s2, e2, p1, p2, p3⟩ := next_at (RD := ppT (ftT (rdT RD 2 (nI s) (nI n) (nI e)) F P) (nI n)) (MO := alM MO K Q) hT (j3.ref hM) hle.2 rfl hA.2.2.2.2.1
    refine LineRes.go g2 (show s ≤ s2 by omega) ?_
    rw [m2, p1]
    simp only [Option.bind_some]
    obtain ⟨x, hx, ex, exn⟩ : ∃ x, x < 4 ∧ (if 0 ≤ n ∧ n ≤ 3 then nI n else nI 0) = nI x ∧ (0 ≤ n ∧ n ≤ 3 → x = n) := by
      by_cases z : 0 ≤ n ∧ n ≤ 3
      · exact ⟨n, by omega, if_pos z, fun _ => rfl⟩
      · exact ⟨0, by omega, if_neg z, fun y => absurd y z⟩
    have x1425 : (1425 : Int32) + nI x = nI (1425 + x) := nI_add 1425 x
    rw [ex, x1425, nI_clamp (by omega)]
    have hI2 : InvL MO0 (ppT (ftT (rdT RD 2 (nI s) (nI n) (nI e)) F P) (nI n)) PL (moT (alM MO K Q) t2' (nI s2) v2' (nI e2)) (i + 1) s2 := by
      refine ⟨⟨by omega, j2, j3, m3.up (by omega), j5, ?_, j7⟩, fun hz => jS (m4 hz).1⟩
      obtain ⟨nm, y1, y2⟩ := j6
      exact ⟨nm, y1, by omega⟩
    exact pipe2 hT hM p3 hI2 rfl rfl m0 hx (fun hz => ⟨by have := (m4 hz).2; omega, exn (m4 hz).2⟩)
  · obtain ⟨m1, m2⟩ := num_no (PL := PL) (a := 0) (b := 3) j2 hA c
    rw [m1]
    simp only [Option.bind_some]
    rw [num_bad (MO := bdM MO (nI s)) rfl]
    simp only [Option.bind_some]
    rw [show (1425 : Int32) + nI 0 = nI 1425 from rfl, ix_nI (by omega) (by decide), nI_clamp (by decide)]
    refine Or.inl ⟨_, PL, _, r_bad rfl (by omega) hA.1 (fun z => absurd z.2 (by decide)) m2 rfl, j5.2.2, tl_bad rfl, rfl, rfl, rfl, ?_⟩
    exact up_keep (MO := bdM MO (nI s)) j3 (by omega)
theorem line_pipe (hT : TapM C N TP) (hM : RefM C N MO0) {i s e : Nat} {v' : Int64} (hA : At N TP RD MO 1 1 (nI 12) v' s e) (hI : InvL MO0 RD PL MO i s) : LineRes N TP MO0 0 i RD PL ((FX10_takes MO).bind (fun r => (FX10_numeral r (nI 0) (nI 3)).bind fun r22 => (FX10_numeral r22.2 (nI 1) (nI 9)).bind fun r23 => ix (1425 + r22.1) 9519 (tlM (sMo_all r23.2 (upd (Mo_all r23.2) (1425 + r22.1).toNatClampNeg r23.1))))) s := by
  obtain ⟨RD1, MO1, t1, t1', v1, v1', s1, e1, a1, a2, a3, a4, a5, a6⟩ := line_open hT hM (by omega) hA hI
  refine LineRes.go a1 (show s ≤ s1 by omega) ?_
  rw [a2, Option.bind_some]
  exact pipe1 hT hM a3 a4 a5
end PIPE
