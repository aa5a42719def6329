/-! ===== lines with numbers ===== -/
section VALUES
variable {C : Nat → Nat} {N : Nat} {TP : TpT} {MO0 MO : MoT} {RD : RdT} {PL : PlT}
abbrev wdT (RD : RdT) (w : Int32) : RdT := sRd_word RD w
theorem up_keep {j : Nat} {x : Int32} (h : KeepR MO0 MO) (hj : 1422 ≤ j ∧ j < 1896) : KeepR MO0 (sMo_all MO (upd (Mo_all MO) j x)) := ⟨h.1, h.2.1, h.2.2.1, h.2.2.2.1, h.2.2.2.2.1, h.2.2.2.2.2.1, fun i hi => (u_ne (by omega)).trans (h.2.2.2.2.2.2 i hi)⟩
theorem open_val {k s e : Nat} (hk : k = 10 ∨ k = 11 ∨ k = 12) : FX2_follow (rdT RD 1 (nI s) (nI k) (nI e)) PL 0 = some (2, wdT (rdT RD 1 (nI s) (nI k) (nI e)) (nI k), PL) := by
  unfold FX2_follow
  refine (if_pos rfl).trans ?_
  refine (if_pos rfl).trans ?_
  have : FX2_openLine (rdT RD 1 (nI s) (nI k) (nI e)) PL = some (2, wdT (rdT RD 1 (nI s) (nI k) (nI e)) (nI k), PL) := by
    unfold FX2_openLine
    dsimp only [nm]
    refine if_pos ?_
    show nI k = 10 ∨ nI k = 11 ∨ nI k = 12
    rcases hk with rfl | rfl | rfl
    · exact Or.inl rfl
    · exact Or.inr (Or.inl rfl)
    · exact Or.inr (Or.inr rfl)
  exact bd_of this rfl
theorem fol_num {v : Int32} {s e : Nat} {r : Int32 × RdT × PlT} (h : FX2_takeNumber (rdT RD 2 (nI s) v (nI e)) PL = some r) : FX2_follow (rdT RD 2 (nI s) v (nI e)) PL 2 = some r := by
  unfold FX2_follow
  refine (if_neg (show ¬ (2 : Int32) = 0 by decide)).trans ?_
  refine (if_neg (show ¬ (2 : Int32) = 1 by decide)).trans ?_
  refine (if_pos rfl).trans ?_
  refine (if_pos rfl).trans ?_
  exact bd_of h rfl
theorem line_win (hT : TapM C N TP) (hM : RefM C N MO0) {i s e : Nat} {v' : Int64} (hA : At N TP RD MO 1 1 (nI 10) v' s e) (hI : InvL MO0 RD PL MO i s) : LineRes N TP MO0 0 i RD PL ((FX10_takes MO).bind (fun r => (FX10_numeral r (nI 1) (nI 50)).bind fun r39 => tlM (sMo_all r39.2 (upd (Mo_all r39.2) 1423 r39.1)))) s := by
  obtain ⟨⟨j1, j2, j3, j4, j5, j6, j7⟩, jS⟩ := hI
  have hN := hT.1
  have hle := hA.2.2.2.2.2.le
  have hlt := hA.2.2.2.2.2.lt (by decide)
  obtain ⟨t1, t1', v1, v1', s1, e1, n1, n2, n3⟩ := next_at (RD := wdT (rdT RD 1 (nI s) (nI 10) (nI e)) (nI 10)) hT (j3.ref hM) hle.2 rfl hA.2.2.2.2.1
  have g1 := r_go (PL := PL) (st := 0) (i := nI i) rfl (by omega) hA.1 (fun z => absurd z.1 (by decide)) (open_val (by omega)) (by decide)
  refine LineRes.go g1 (Nat.le_refl s) ?_
  have hle1 := n3.2.2.2.2.2.le
  rw [n1, Option.bind_some]
  have j2' : Mo_faultKind (moT MO t1' (nI s1) v1' (nI e1)) = 0 := j2
  have j3' : KeepR MO0 (moT MO t1' (nI s1) v1' (nI e1)) := j3
  by_cases c : t1 = 2
  · have c' : t1' = 2 := by
      rcases n3.2.2.2.2.2.num with ⟨-, z, -⟩ | ⟨z, -⟩
      · exact z
      · exact absurd c z
    subst c c'
    have hlt1 := n3.2.2.2.2.2.lt (by decide)
    obtain ⟨n, F, P, K, Q, m0, m1, m2, m3, m4⟩ := num_yes (PL := PL) (a := 1) (b := 50) (wd := 10) j2' n3 (by omega) (show FaultR (wdT (rdT RD 1 (nI s) (nI 10) (nI e)) (nI 10)) (moT MO 2 (nI s1) v1' (nI e1)) s1 from j4.up (by omega)) rfl (by decide) (by decide) (by decide) (by decide) (by decide)
    obtain ⟨t2, t2', v2, v2', s2, e2, p1, p2, p3⟩ := next_at (RD := ftT (rdT (wdT (rdT RD 1 (nI s) (nI 10) (nI e)) (nI 10)) 2 (nI s1) (nI n) (nI e1)) F P) (MO := alM (moT MO 2 (nI s1) v1' (nI e1)) K Q) hT (j3.ref hM) hle1.2 rfl rfl
    have q1 : FX2_takeNumber (rdT (wdT (rdT RD 1 (nI s) (nI 10) (nI e)) (nI 10)) 2 (nI s1) v1 (nI e1)) PL = some (3, ftT (rdT (wdT (rdT RD 1 (nI s) (nI 10) (nI e)) (nI 10)) 2 (nI s1) (nI n) (nI e1)) F P, sPl_window PL (nI n)) := by
      rw [m1]
      unfold FX2_takeNumber_j39
      dsimp only [nm]
      exact if_pos rfl
    have g2 := r_go (st := 2) (i := nI (i + 1)) rfl (by omega) n3.1 (fun z => absurd z.1 (by decide)) (fol_num q1) (by decide)
    refine LineRes.go g2 (show s ≤ s2 by omega) ?_
    rw [m2, p1]
    simp only [Option.bind_some]
    show LineRes N TP MO0 3 (i + 1 + 1) (ftT (rdT (wdT (rdT RD 1 (nI s) (nI 10) (nI e)) (nI 10)) 2 (nI s1) (nI n) (nI e1)) F P) (sPl_window PL (nI n)) (tlM (sMo_all (moT (alM (moT MO 2 (nI s1) v1' (nI e1)) K Q) t2' (nI s2) v2' (nI e2)) (upd (Mo_all MO) 1423 (if 1 ≤ n ∧ n ≤ 50 then nI n else nI 1)))) s2
    have a1 : ∀ j, j ≠ 1423 → upd (Mo_all MO) 1423 (if 1 ≤ n ∧ n ≤ 50 then nI n else nI 1) j = Mo_all MO j := fun j hj => u_ne hj
    have a2 : upd (Mo_all MO) 1423 (if 1 ≤ n ∧ n ≤ 50 then nI n else nI 1) 1423 = (if 1 ≤ n ∧ n ≤ 50 then nI n else nI 1) := u_eq rfl
    generalize upd (Mo_all MO) 1423 (if 1 ≤ n ∧ n ≤ 50 then nI n else nI 1) = A at a1 a2 ⊢
    refine tail_both hT hM (MO := sMo_all (moT (alM (moT MO 2 (nI s1) v1' (nI e1)) K Q) t2' (nI s2) v2' (nI e2)) A) p3 ⟨⟨by omega, j2, ⟨j3.1, j3.2.1, j3.2.2.1, j3.2.2.2.1, j3.2.2.2.2.1, j3.2.2.2.2.2.1, fun j hj => (a1 j (by omega)).trans (j3.2.2.2.2.2.2 j hj)⟩, m3.up (by omega), j5, ?_, ?_⟩, fun hz => ?_⟩ (Or.inl rfl)
    · obtain ⟨nm, y1, y2⟩ := j6
      exact ⟨nm, y1, by omega⟩
    · obtain ⟨Wm, y1, y2⟩ := j7
      exact ⟨Wm, y1, (a1 1422 (by decide)).trans y2⟩
    · obtain ⟨z1, z2⟩ := m4 hz
      obtain ⟨W, ln, ⟨y1, y2, y3, y4, y5, y6, y7⟩, y8⟩ := jS z1
      rw [if_pos z2] at a2
      refine ⟨W, ln, ⟨y1, fun w hw k hk => ?_, fun p hp => (a1 _ (by omega)).trans (y3 p hp), ⟨a2, n, z2.2, rfl⟩, ⟨(a1 1424 (by decide)).trans y5.1, y5.2⟩, fun i hi hi' => (a1 _ (by omega)).trans (y6 i hi hi'), y7⟩, y8.1, y8.2.1, (a1 1422 (by decide)).trans y8.2.2.1, fun w hw => (a1 _ (by omega)).trans (y8.2.2.2.1 w hw), y8.2.2.2.2⟩
      · obtain ⟨x1, x2, x3⟩ := y2 w hw k hk
        have := (y1 w hw).2
        exact ⟨(a1 _ (by omega)).trans x1, (a1 _ (by omega)).trans x2, x3⟩
  · obtain ⟨m1, m2⟩ := num_no (PL := PL) (a := 1) (b := 50) j2' n3 c
    rw [m1]
    simp only [Option.bind_some]
    refine Or.inl ⟨_, PL, _, r_bad rfl (by omega) n3.1 (fun z => absurd z.2 (by decide)) m2 rfl, j5.2.2, tl_bad rfl, rfl, rfl, rfl, ?_⟩
    exact up_keep (MO := bdM (moT MO t1' (nI s1) v1' (nI e1)) (nI s1)) j3 (by omega)
theorem line_gra (hT : TapM C N TP) (hM : RefM C N MO0) {i s e : Nat} {v' : Int64} (hA : At N TP RD MO 1 1 (nI 11) v' s e) (hI : InvL MO0 RD PL MO i s) : LineRes N TP MO0 0 i RD PL ((FX10_takes MO).bind (fun r => (FX10_numeral r (nI 0) (nI 50)).bind fun r39 => tlM (sMo_all r39.2 (upd (Mo_all r39.2) 1424 r39.1)))) s := by
  obtain ⟨⟨j1, j2, j3, j4, j5, j6, j7⟩, jS⟩ := hI
  have hN := hT.1
  have hle := hA.2.2.2.2.2.le
  have hlt := hA.2.2.2.2.2.lt (by decide)
  obtain ⟨t1, t1', v1, v1', s1, e1, n1, n2, n3⟩ := next_at (RD := wdT (rdT RD 1 (nI s) (nI 11) (nI e)) (nI 11)) hT (j3.ref hM) hle.2 rfl hA.2.2.2.2.1
  have g1 := r_go (PL := PL) (st := 0) (i := nI i) rfl (by omega) hA.1 (fun z => absurd z.1 (by decide)) (open_val (by omega)) (by decide)
  refine LineRes.go g1 (Nat.le_refl s) ?_
  have hle1 := n3.2.2.2.2.2.le
  rw [n1, Option.bind_some]
  have j2' : Mo_faultKind (moT MO t1' (nI s1) v1' (nI e1)) = 0 := j2
  have j3' : KeepR MO0 (moT MO t1' (nI s1) v1' (nI e1)) := j3
  by_cases c : t1 = 2
  · have c' : t1' = 2 := by
      rcases n3.2.2.2.2.2.num with ⟨-, z, -⟩ | ⟨z, -⟩
      · exact z
      · exact absurd c z
    subst c c'
    have hlt1 := n3.2.2.2.2.2.lt (by decide)
    obtain ⟨n, F, P, K, Q, m0, m1, m2, m3, m4⟩ := num_yes (PL := PL) (a := 0) (b := 50) (wd := 11) j2' n3 (by omega) (show FaultR (wdT (rdT RD 1 (nI s) (nI 11) (nI e)) (nI 11)) (moT MO 2 (nI s1) v1' (nI e1)) s1 from j4.up (by omega)) rfl (by decide) (by decide) (by decide) (by decide) (by decide)
    obtain ⟨t2, t2', v2, v2', s2, e2, p1, p2, p3⟩ := next_at (RD := ftT (rdT (wdT (rdT RD 1 (nI s) (nI 11) (nI e)) (nI 11)) 2 (nI s1) (nI n) (nI e1)) F P) (MO := alM (moT MO 2 (nI s1) v1' (nI e1)) K Q) hT (j3.ref hM) hle1.2 rfl rfl
    have q1 : FX2_takeNumber (rdT (wdT (rdT RD 1 (nI s) (nI 11) (nI e)) (nI 11)) 2 (nI s1) v1 (nI e1)) PL = some (3, ftT (rdT (wdT (rdT RD 1 (nI s) (nI 11) (nI e)) (nI 11)) 2 (nI s1) (nI n) (nI e1)) F P, sPl_grace PL (nI n)) := by
      rw [m1]
      unfold FX2_takeNumber_j39
      dsimp only [nm]
      exact (if_neg (show ¬ nI 11 = (10 : Int32) by decide)).trans (if_pos rfl)
    have g2 := r_go (st := 2) (i := nI (i + 1)) rfl (by omega) n3.1 (fun z => absurd z.1 (by decide)) (fol_num q1) (by decide)
    refine LineRes.go g2 (show s ≤ s2 by omega) ?_
    rw [m2, p1]
    simp only [Option.bind_some]
    show LineRes N TP MO0 3 (i + 1 + 1) (ftT (rdT (wdT (rdT RD 1 (nI s) (nI 11) (nI e)) (nI 11)) 2 (nI s1) (nI n) (nI e1)) F P) (sPl_grace PL (nI n)) (tlM (sMo_all (moT (alM (moT MO 2 (nI s1) v1' (nI e1)) K Q) t2' (nI s2) v2' (nI e2)) (upd (Mo_all MO) 1424 (if 0 ≤ n ∧ n ≤ 50 then nI n else nI 0)))) s2
    have a1 : ∀ j, j ≠ 1424 → upd (Mo_all MO) 1424 (if 0 ≤ n ∧ n ≤ 50 then nI n else nI 0) j = Mo_all MO j := fun j hj => u_ne hj
    have a2 : upd (Mo_all MO) 1424 (if 0 ≤ n ∧ n ≤ 50 then nI n else nI 0) 1424 = (if 0 ≤ n ∧ n ≤ 50 then nI n else nI 0) := u_eq rfl
    generalize upd (Mo_all MO) 1424 (if 0 ≤ n ∧ n ≤ 50 then nI n else nI 0) = A at a1 a2 ⊢
    refine tail_both hT hM (MO := sMo_all (moT (alM (moT MO 2 (nI s1) v1' (nI e1)) K Q) t2' (nI s2) v2' (nI e2)) A) p3 ⟨⟨by omega, j2, ⟨j3.1, j3.2.1, j3.2.2.1, j3.2.2.2.1, j3.2.2.2.2.1, j3.2.2.2.2.2.1, fun j hj => (a1 j (by omega)).trans (j3.2.2.2.2.2.2 j hj)⟩, m3.up (by omega), j5, ?_, ?_⟩, fun hz => ?_⟩ (Or.inl rfl)
    · obtain ⟨nm, y1, y2⟩ := j6
      exact ⟨nm, y1, by omega⟩
    · obtain ⟨Wm, y1, y2⟩ := j7
      exact ⟨Wm, y1, (a1 1422 (by decide)).trans y2⟩
    · obtain ⟨z1, z2⟩ := m4 hz
      obtain ⟨W, ln, ⟨y1, y2, y3, y4, y5, y6, y7⟩, y8⟩ := jS z1
      rw [if_pos z2] at a2
      refine ⟨W, ln, ⟨y1, fun w hw k hk => ?_, fun p hp => (a1 _ (by omega)).trans (y3 p hp), ⟨(a1 1423 (by decide)).trans y4.1, y4.2⟩, ⟨a2, n, z2.2, rfl⟩, fun i hi hi' => (a1 _ (by omega)).trans (y6 i hi hi'), y7⟩, y8.1, y8.2.1, (a1 1422 (by decide)).trans y8.2.2.1, fun w hw => (a1 _ (by omega)).trans (y8.2.2.2.1 w hw), y8.2.2.2.2⟩
      · obtain ⟨x1, x2, x3⟩ := y2 w hw k hk
        have := (y1 w hw).2
        exact ⟨(a1 _ (by omega)).trans x1, (a1 _ (by omega)).trans x2, x3⟩
  · obtain ⟨m1, m2⟩ := num_no (PL := PL) (a := 0) (b := 50) j2' n3 c
    rw [m1]
    simp only [Option.bind_some]
    refine Or.inl ⟨_, PL, _, r_bad rfl (by omega) n3.1 (fun z => absurd z.2 (by decide)) m2 rfl, j5.2.2, tl_bad rfl, rfl, rfl, rfl, ?_⟩
    exact up_keep (MO := bdM (moT MO t1' (nI s1) v1' (nI e1)) (nI s1)) j3 (by omega)
end VALUES
