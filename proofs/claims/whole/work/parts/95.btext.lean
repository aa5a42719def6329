/-! ===== text(): the two sides meet ===== -/
section BTEXT2
variable {WD : WdT} {PL : PlT} {SC : ScT} {SK : SkT} {TP : TpT} {HI : HiT} {HS : Nat → ScT} {HK : Nat → SkT} {RD : RdT} {PD : PlT} {MO : MoT}
abbrev rd0 (RD : RdT) : RdT := sRd_next (sRd_spot (sRd_fault RD 0) (-1)) 0
theorem inv_first {M0 : MoT} (hall : ∀ i, i < 474 → Mo_all M0 (1422 + i) = fV i) (hfk : Mo_faultKind M0 = 0) (hak : Mo_alsoKind M0 = 0) (hnm : Mo_namedMany M0 = 0) (hp : NormP PD) {t' a n : Int32} {v' : Int64} {s : Nat} : InvL M0 (rd0 RD) (clP PD) (moT M0 t' a v' n) 0 s := by
  obtain ⟨p0, p1, p2, p3, p4⟩ := hp
  have h0 : Mo_all M0 1422 = nI 0 := hall 0 (by omega)
  refine ⟨⟨Nat.zero_le _, hfk, ⟨rfl, rfl, rfl, rfl, rfl, rfl, fun _ _ => rfl⟩, Or.inl ⟨rfl, rfl, hak⟩, ⟨⟨0, by omega, rfl⟩, fun w hw => ⟨0, by omega, rfl⟩, ⟨fun _ _ => rfl, p1, p2, p3, fun j hj => if_neg (by omega)⟩⟩, ⟨0, hnm, Nat.zero_le _⟩, ⟨0, by omega, h0⟩⟩, fun _ => ⟨0, fun _ => 0, ⟨fun w hw => ⟨rfl, Nat.zero_le _⟩, fun w hw k hk => absurd hk (Nat.not_lt_zero k), fun p hp => ?_, ⟨hall 1 (by omega), 4, by omega, rfl⟩, ⟨hall 2 (by omega), 6, by omega, rfl⟩, fun i h1 h2 => hall i h2, ⟨hnm, fun w hw k hk => absurd hk (Nat.not_lt_zero k)⟩⟩, ⟨Nat.zero_le _, rfl, h0, fun w hw => ?_, fun w hw => absurd hw (Nat.not_lt_zero w), fun _ _ _ => rfl⟩⟩⟩
  · refine ((congrArg (Mo_all M0) (show 1425 + p = 1422 + (3 + p) by omega)).trans (hall (3 + p) (by omega))).trans ?_
    unfold fV
    rw [if_neg (by omega), if_neg (by omega), if_pos (by omega)]
    exact (if_pos hp).symm
  · refine ((congrArg (Mo_all M0) (show 1429 + w = 1422 + (7 + w) by omega)).trans (hall (7 + w) (by omega))).trans ?_
    unfold fV
    rw [if_neg (by omega), if_neg (by omega), if_neg (by omega), if_neg (by omega)]
    rfl
theorem jd_bad (h : Mo_faultKind MO = 1) : FX10_judges MO = some MO := by
  unfold FX10_judges
  rw [good_f h, Option.bind_some, if_pos bI_f]
theorem jd_go {MO2 : MoT} (h : Mo_faultKind MO = 0) (hi : itr FX10_judges_10 (nI 0, MO) = some MO2) : ∃ MOf, FX10_judges MO = some MOf ∧ Mo_faultKind MOf = Mo_alsoKind MO2 ∧ Mo_faultPlace MOf = (if Mo_alsoKind MO2 = 0 then -1 else Mo_alsoPlace MO2) ∧ (∀ M0, KeepR M0 MO2 → KeepR M0 MOf) ∧ (∀ RD PL ln, Sy RD PL MO2 ln → Sy RD PL MOf ln) ∧ (∀ PL ln W, MdL PL MO2 ln W → MdL PL MOf ln W) := by
  have e : FX10_judges MO = some (sMo_faultPlace (sMo_faultKind MO2 (Mo_alsoKind MO2)) (if Mo_alsoKind MO2 = 0 then -1 else Mo_alsoPlace MO2)) := by
    unfold FX10_judges
    rw [good_t h, Option.bind_some, if_neg bI_t]
    refine bd_of hi ?_
    dsimp only [nm]
    by_cases c : Mo_alsoKind MO2 = 0
    · rw [if_pos c, if_pos c]
    · rw [if_neg c, if_neg c]
  exact ⟨_, e, rfl, rfl, fun _ k => k, fun _ _ _ k => k, fun _ _ _ k => k⟩
theorem rd_fail {RDf : RdT} {PLf : PlT} (hc : FX1_clear PD = some (clP PD)) (hi : itr (FX2_read_29 TP) (0, 1, nI 0, rd0 RD, clP PD) = some (RDf, PLf)) (hf : ¬ Rd_fault RDf = 0) : FX2_read RD PD TP = some (RDf, PLf) := by
  unfold FX2_read
  refine bd_of hc ?_
  dsimp only [nm]
  refine bd_of hi ?_
  exact if_neg hf
theorem rd_seek {RDf RDg : RdT} {PLf : PlT} (hc : FX1_clear PD = some (clP PD)) (hi : itr (FX2_read_29 TP) (0, 1, nI 0, rd0 RD, clP PD) = some (RDf, PLf)) (hf : Rd_fault RDf = 0) (hs : itr (FX2_seekStrangers_2 PLf) (nI 0, RDf) = some RDg) : FX2_read RD PD TP = some (RDg, PLf) := by
  have hk : FX2_seekStrangers RDf PLf = some RDg := by
    unfold FX2_seekStrangers
    exact bd_of hs rfl
  unfold FX2_read
  refine bd_of hc ?_
  dsimp only [nm]
  refine bd_of hi ?_
  refine (if_pos hf).trans ?_
  exact bd_of hk rfl
theorem ct_fail {RDf : RdT} {PLf : PlT} (h : FX2_read RD PD TP = some (RDf, PLf)) (hf : ¬ Rd_fault RDf = 0) : FX9_text HI WD PL SC SK TP RD PD = some (-1, HI, (Rd_fault RDf, Rd_spot RDf), PL, SC, SK, sTp_length TP 0, RDf, PLf) := by
  unfold FX9_text
  refine bd_of h ?_
  dsimp only [nm]
  exact if_neg hf
theorem ct_good {RDf : RdT} {PLf PLr : PlT} {SCr : ScT} (h : FX2_read RD PD TP = some (RDf, PLf)) (hf : Rd_fault RDf = 0) (h1 : FX1_take PL PLf = some PLf) (h2 : FX1_findReach PLf = some PLr) (h3 : FX3_begin SC PLr = some SCr) : FX9_text HI WD PL SC SK TP RD PD = some (Pl_workers PLr, (0, 0), (Rd_fault RDf, Rd_spot RDf), PLr, SCr, ((Sk_rows SK), 0, 0, 0), sTp_length TP 0, RDf, PLf) := by
  unfold FX9_text
  refine bd_of h ?_
  dsimp only [nm]
  refine (if_pos hf).trans ?_
  refine bd_of h1 ?_
  refine bd_of h2 ?_
  refine bd_of h3 ?_
  rfl
theorem rt_fail {M1 M2 MOf : MoT} (h1 : FX10_takes (txM MO) = some M1) (h2 : itr FX10_text_49 M1 = some M2) (h3 : FX10_judges M2 = some MOf) (hf : ¬ Mo_faultKind MOf = 0) : FX10_text MO = some (-1, MOf) := by
  rw [tx_eq]
  refine bd_of h1 ?_
  refine bd_of h2 ?_
  refine bd_of h3 ?_
  rw [show FX10_isGood MOf = some false from if_neg hf, Option.bind_some, if_pos bI_f]
theorem rt_good {M1 M2 MOf : MoT} {W : Nat} (h1 : FX10_takes (txM MO) = some M1) (h2 : itr FX10_text_49 M1 = some M2) (h3 : FX10_judges M2 = some MOf) (hf : Mo_faultKind MOf = 0) (hb : Mo_b MOf = nI 0) (hW : Mo_all MOf 1422 = nI W) : FX10_text MO = some (nI W, sMo_undos (sMo_all MOf (cpA (Mo_all MOf) 1422 0 474)) 0) := by
  have hc := M_copies (MO := MOf) (a := 1422) (b := 0) (n := 474) (by decide) (by decide) (by decide)
  have hw : FX10_workers (sMo_undos (sMo_all MOf (cpA (Mo_all MOf) 1422 0 474)) 0) = some (nI W) := by
    refine (M_workers (MO := sMo_undos (sMo_all MOf (cpA (Mo_all MOf) 1422 0 474)) 0) (β := 0) hb (by decide)).trans ?_
    rw [← hW]
    exact congrArg some (show cpA (Mo_all MOf) 1422 0 474 0 = Mo_all MOf 1422 from if_pos (by decide))
  rw [tx_eq]
  refine bd_of h1 ?_
  refine bd_of h2 ?_
  refine bd_of h3 ?_
  rw [good_t hf, Option.bind_some, if_neg bI_t]
  refine bd_of hc ?_
  exact bd_of hw rfl
theorem b_text : B_text Rel := by
  rintro ⟨WD, PL, SC, SK, TP, HI, HS, HK, RD, PD, VW, TR, ST, VT, SF, IM⟩ MO h
  have hpd : NormP PD := by
    obtain ⟨W, ln, h1, h2, h3, h4, h5, h6, h7, h8, h9⟩ := h
    exact h8.1
  have hsc : NormS SC := by
    obtain ⟨W, ln, h1, h2, h3, h4, h5, h6, h7, h8, h9⟩ := h
    exact h3.2.2.2.1.2.2.2.2.2.2.2.2.2.2.2
  have hpl : NormP PL := by
    obtain ⟨W, ln, h1, h2, h3, h4, h5, h6, h7, h8, h9⟩ := h
    exact h2
  have hb : Mo_b MO = nI 0 := by
    obtain ⟨W, ln, h1, h2, h3, h4, h5, h6, h7, h8, h9⟩ := h
    exact h3.2.2.2.2.1
  have htp : ∃ C N, TapM C N TP ∧ RefM C N (txM MO) := by
    obtain ⟨W, ln, h1, h2, h3, h4, h5, h6, h7, h8, h9⟩ := h
    obtain ⟨n, y1, y2, y3, y4⟩ := h6
    refine ⟨fun i => (Mo_tape MO i).toNatClampNeg, n, ⟨y1, y2, fun i hi => ?_⟩, tx_size.trans y3, fun i hi => ?_⟩
    · obtain ⟨c, c1, c2, c3⟩ := y4 i hi
      dsimp only
      rw [c3, nI_clamp (by omega)]
      exact ⟨c1, c2⟩
    · obtain ⟨c, c1, c2, c3⟩ := y4 i hi
      refine (congrFun tx_tape i).trans ?_
      dsimp only
      rw [c3, nI_clamp (by omega)]
  obtain ⟨C, N, hT, hM⟩ := htp
  have hcl := clear_eq hpd
  obtain ⟨t, t', v, v', s, e, n1, n2, n3⟩ := next_at (RD := rd0 RD) hT hM (Nat.zero_le N) rfl tx_next
  obtain ⟨RDf, PLf, M2, t1, t2, t3, t4⟩ := text_loop hT hM N 0 s e t t' v v' (rd0 RD) (clP PD) _ (by omega) n3 (inv_first (fun i hi => (congrFun tx_all _).trans (fs_in rfl hi)) tx_fk tx_ak tx_nm hpd)
  have fin : ∀ (RDg : RdT) (MOf : MoT) (F P : Int32), FX2_read RD PD TP = some (RDg, PLf) → FX10_judges M2 = some MOf → KeepR (txM MO) MOf → Rd_fault RDg = F → Rd_spot RDg = P → Mo_faultKind MOf = F → Mo_faultPlace MOf = P → ¬ F = 0 → ∃ (q : Int32 × HiT × WdT × PlT × ScT × SkT × TpT × RdT × PlT) (g : Int32 × MoT), FX9_text HI WD PL SC SK TP RD PD = some q ∧ FX10_text MO = some g ∧ q.1 = g.1 ∧ Rel (q.2.2.1, q.2.2.2.1, q.2.2.2.2.1, q.2.2.2.2.2.1, q.2.2.2.2.2.2.1, q.2.1, HS, HK, q.2.2.2.2.2.2.2.1, q.2.2.2.2.2.2.2.2, VW, TR, ST, VT, SF, IM) g.2 := by
    rintro RDg MOf F P a1 a2 a3 rfl rfl a6 a7 a8
    exact ⟨_, _, ct_fail a1 a8, rt_fail n1 t2 a2 (by rw [a6]; exact a8), rfl, rel_fail h a3 a6 a7 RDg t3⟩
  rcases t4 with ⟨z1, z2, z3, z4⟩ | ⟨z1, z2, ⟨q, z3⟩, z4, z5, z6⟩
  · exact fin RDf M2 1 (Rd_spot RDf) (rd_fail hcl t1 (by rw [z1]; decide)) (jd_bad z2) z4 z1 rfl z2 z3 (by decide)
  · rcases z3 with ⟨f1, f2, f3⟩ | ⟨f, x, f1, f2, f3, f4, f5, f6, f7⟩
    · obtain ⟨W, ln, y1, y2⟩ := z6 f1
      rcases outer_both y1 y2 f3 f1 W 0 (by omega) with ⟨o1, o2, o3⟩ | ⟨P, o1, o2⟩
      · obtain ⟨MOf, j1, j2, j3, j4, j5, j6⟩ := jd_go z1 o2
        have hP := plan_ok y1 y2 (fun x hx j hj => o3 x (Nat.zero_le _) hx j hj)
        obtain ⟨fr, r1, r2, r3⟩ := find_eq hP t3
        rw [f3] at j2
        rw [if_pos f3] at j3
        have hKf := j4 _ z2
        have hg := ct_good (HI := HI) (WD := WD) (SK := SK) (rd_seek hcl t1 f1 o1) f1 (ptake_eq hpl t3) r1 (begin_eq (PL := sPl_reach PLf fr) hsc)
        have hm := j6 _ _ _ y2
        refine ⟨_, _, hg, rt_good n1 t2 j1 j2 ((hKf.2.2.2.2.1.trans tx_b).trans hb) hm.2.2.1, hm.2.1, ?_⟩
        have hr := rel_good h hKf j2 j3 RDf (j5 _ _ _ y1) hm hP t3 rfl r2 r3
        rw [f1, f2]
        exact hr
      · obtain ⟨MOf, j1, j2, j3, j4, j5, j6⟩ := jd_go z1 o2
        rw [if_neg (show ¬ Mo_alsoKind (alM M2 5 P) = 0 from (show ¬ (5 : Int32) = 0 by decide))] at j3
        exact fin (ftT RDf 5 P) MOf 5 P (rd_seek hcl t1 f1 o1) j1 (j4 _ z2) rfl rfl j2 j3 (by decide)
    · have hnf : ¬ nI f = 0 := nI_ne0 (by omega) (by omega)
      have o2 : itr FX10_judges_10 (nI 0, M2) = some M2 := by
        apply itr_inr
        unfold FX10_judges_10
        by_cases c : Mo_namedMany M2 ≤ nI 0
        · exact if_pos c
        · exact (if_neg c).trans (if_neg (show ¬ Mo_alsoKind M2 = 0 by rw [f6]; exact hnf))
      obtain ⟨MOf, j1, j2, j3, j4, j5, j6⟩ := jd_go z1 o2
      rw [f6] at j2
      rw [if_neg (by rw [f6]; exact hnf), f7] at j3
      exact fin RDf MOf (nI f) (nI x) (rd_fail hcl t1 (by rw [f4]; exact hnf)) j1 (j4 _ z2) f4 f5 j2 j3 hnf
end BTEXT2
