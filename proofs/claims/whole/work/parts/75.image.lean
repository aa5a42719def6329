/-! ===== images ===== -/
theorem ptake_eq {A B : PlT} (hA : NormP A) (hB : NormP B) : FX1_take A B = some B := by
  obtain ⟨a0, a1, a2, a3, a4⟩ := hA
  obtain ⟨b0, b1, b2, b3, b4⟩ := hB
  unfold FX1_take
  simp only [nm]
  refine bd_of (copy_nz (by decide) b0 a0) ?_
  refine bd_of (copy_nz (by decide) b1 a1) ?_
  refine bd_of (copy_nz (by decide) b2 a2) ?_
  refine bd_of (copy_nz (by decide) b3 a3) ?_
  refine bd_of (copy_nz (by decide) b4 a4) ?_
  rfl
theorem ttake_eq {A B : TpT} {f : Nat → Int32} {l : Int32} (h : TapeR B f l) : ∃ T, FX5_take A B = some T ∧ TapeR T f l := by
  obtain ⟨n, n1, n2, n3, n4⟩ := h
  have hn : (Tp_length B).toNatClampNeg = n := by rw [n2, nI_clamp (by omega)]
  refine ⟨(va_cpy (Tp_bytes B) (Tp_bytes A) 0 0 n, Tp_length B), ?_, n, n1, n2, n3, fun i hi => ?_⟩
  · unfold FX5_take
    rw [cpk_ok]
    · dsimp only [nm, sTp_bytes, sTp_length, Tp_bytes, Tp_length]
      rw [show B.2.toNatClampNeg = n from hn]
      rfl
    · refine ⟨by decide, by decide, by rw [n2]; exact nI_pos (by omega), ?_, ?_, fun i hi => ?_⟩
      · rw [hn]
        show 0 + n ≤ 800
        omega
      · rw [hn]
        show 0 + n ≤ 800
        omega
      · rw [hn] at hi
        obtain ⟨c, c1, c2, c3⟩ := n4 i hi
        rw [show Int32.toNatClampNeg 0 + i = i from Nat.zero_add i, c2]
        exact sb_fitB c
  · obtain ⟨c, c1, c2, c3⟩ := n4 i hi
    refine ⟨c, c1, ?_, c3⟩
    show (if 0 ≤ i ∧ i < 0 + n then Tp_bytes B (0 + (i - 0)) else _) = _
    rw [if_pos (by omega), Nat.zero_add, Nat.sub_zero]
    exact c2
/-- a world taken over -/
theorem wtake_eq {d : IMT} {WD : WdT} {PL : PlT} {SC : ScT} {SK : SkT} {TP : TpT} {f : Nat → Int32} {l : Int32} (p1 : NormP d.2.1) (p2 : NormP PL) (s1 : NormS d.2.2.1) (s2 : NormS SC) (k1 : Nz 150 (Sk_rows d.2.2.2.1)) (k2 : Nz 150 (Sk_rows SK)) (h : TapeR TP f l) : ∃ T, FX8_take d.1 d.2.1 d.2.2.1 d.2.2.2.1 d.2.2.2.2 WD PL SC SK TP = some (WD, PL, SC, SK, T) ∧ TapeR T f l := by
  obtain ⟨T, t1, t2⟩ := ttake_eq (A := d.2.2.2.2) h
  refine ⟨T, ?_, t2⟩
  unfold FX8_take
  refine bd_of (ptake_eq p1 p2) ?_
  refine bd_of (take_eq s1 s2) ?_
  refine bd_of (ktake_eq k1 k2) ?_
  refine bd_of t1 ?_
  rfl
theorem np0 : NormP Pl0 := ⟨fun _ _ => rfl, fun _ _ => rfl, fun _ _ => rfl, fun _ _ => rfl, fun k hk => if_neg (by omega)⟩
theorem ns0 : NormS Sc0 := ⟨fun _ _ => rfl, fun _ _ => rfl, fun _ _ => rfl, fun _ _ => rfl, fun _ _ => rfl, fun k hk => if_neg (by omega), fun _ _ => rfl, fun _ _ => rfl⟩
def cpT (all tape : Nat → Int32) (a i : Nat) : Nat → Int32 := fun j => if a ≤ j ∧ j < a + i then tape (j - a) else all j
theorem im_x {k : Nat} : (5688 : Int32) + 1277 * nI k = nI (5688 + 1277 * k) := by rw [show (1277 : Int32) = nI 1277 from rfl, pk_mul, show (5688 : Int32) = nI 5688 from rfl, nI_add]
theorem s_imtape {MO : MoT} {a : Nat} (ha : a + 1277 ≤ 9519) : itr (FX10_image_32 (nI a)) ((0 : Int32), MO) = some (sMo_all MO (cpT (Mo_all MO) (Mo_tape MO) (a + 474) 800)) := by
  have h0 : cpT (Mo_all MO) (Mo_tape MO) (a + 474) 0 = Mo_all MO := by
    funext j
    exact if_neg (by omega)
  have := itr_chain (f := FX10_image_32 (nI a)) (e := sMo_all MO (cpT (Mo_all MO) (Mo_tape MO) (a + 474) 800)) (fun i => (nI i, sMo_all MO (cpT (Mo_all MO) (Mo_tape MO) (a + 474) i))) 800 (fun i hi => by
    unfold FX10_image_32
    refine (if_neg (show ¬ (800 : Int32) ≤ nI i from nI_ge (b := 800) hi (by decide))).trans ?_
    refine (ix_nI hi (by decide) _).trans ?_
    rw [show nI a + 474 + nI i = nI (a + 474 + i) from nI_a2 a 474 i, nI_clamp (by omega), nI_clamp (by omega)]
    refine (ix_nI (by omega) (by decide) _).trans ?_
    dsimp only [nm]
    rw [nI_1]
    have e2 : upd (cpT (Mo_all MO) (Mo_tape MO) (a + 474) i) (a + 474 + i) (Mo_tape MO i) = cpT (Mo_all MO) (Mo_tape MO) (a + 474) (i + 1) := by
      funext j
      show (if j = a + 474 + i then _ else (if a + 474 ≤ j ∧ j < a + 474 + i then _ else _)) = if a + 474 ≤ j ∧ j < a + 474 + (i + 1) then _ else _
      by_cases e : j = a + 474 + i
      · subst e
        rw [if_pos rfl, if_pos (by omega), show a + 474 + i - (a + 474) = i by omega]
      · rw [if_neg e]
        by_cases c : a + 474 ≤ j ∧ j < a + 474 + i
        · rw [if_pos c, if_pos (by omega)]
        · rw [if_neg c, if_neg (by omega)]
    exact congrArg (fun z => some (Sum.inl (nI (i + 1), sMo_all MO z))) e2) (by
    unfold FX10_image_32
    exact if_pos (show (800 : Int32) ≤ nI 800 by decide))
  rw [show (nI 0, sMo_all MO (cpT (Mo_all MO) (Mo_tape MO) (a + 474) 0)) = ((0 : Int32), MO) from by rw [h0]; rfl] at this
  exact this
theorem s_agtape {MO : MoT} {a : Nat} (ha : a + 1277 ≤ 9519) : itr (FX10_again_41 (nI a)) ((0 : Int32), MO) = some (sMo_tape MO (cpT (Mo_tape MO) (fun i => Mo_all MO (a + 474 + i)) 0 800)) := by
  have h0 : cpT (Mo_tape MO) (fun i => Mo_all MO (a + 474 + i)) 0 0 = Mo_tape MO := by
    funext j
    exact if_neg (by omega)
  have := itr_chain (f := FX10_again_41 (nI a)) (e := sMo_tape MO (cpT (Mo_tape MO) (fun i => Mo_all MO (a + 474 + i)) 0 800)) (fun i => (nI i, sMo_tape MO (cpT (Mo_tape MO) (fun i => Mo_all MO (a + 474 + i)) 0 i))) 800 (fun i hi => by
    unfold FX10_again_41
    refine (if_neg (show ¬ (800 : Int32) ≤ nI i from nI_ge (b := 800) hi (by decide))).trans ?_
    dsimp only [nm]
    rw [show nI a + 474 + nI i = nI (a + 474 + i) from nI_a2 a 474 i, nI_clamp (by omega), nI_clamp (by omega)]
    refine (ix_nI (by omega) (by decide) _).trans ?_
    refine (ix_nI hi (by decide) _).trans ?_
    rw [nI_1]
    have e2 : upd (cpT (Mo_tape MO) (fun i => Mo_all MO (a + 474 + i)) 0 i) i (Mo_all MO (a + 474 + i)) = cpT (Mo_tape MO) (fun i => Mo_all MO (a + 474 + i)) 0 (i + 1) := by
      funext j
      show (if j = i then _ else (if 0 ≤ j ∧ j < 0 + i then _ else _)) = if 0 ≤ j ∧ j < 0 + (i + 1) then _ else _
      by_cases e : j = i
      · subst e
        rw [if_pos rfl, if_pos (by omega), Nat.sub_zero]
      · rw [if_neg e]
        by_cases c : 0 ≤ j ∧ j < 0 + i
        · rw [if_pos c, if_pos (by omega)]
        · rw [if_neg c, if_neg (by omega)]
    exact congrArg (fun z => some (Sum.inl (nI (i + 1), sMo_tape MO z))) e2) (by
    unfold FX10_again_41
    exact if_pos (show (800 : Int32) ≤ nI 800 by decide))
  rw [show (nI 0, sMo_tape MO (cpT (Mo_tape MO) (fun i => Mo_all MO (a + 474 + i)) 0 0)) = ((0 : Int32), MO) from by rw [h0]; rfl] at this
  exact this
theorem im_in {v : Int32} (h : vp_in v 3) : ∃ k, k < 3 ∧ v = nI k := by
  have h0 : ¬ v < 0 := fun z => h (Or.inl z)
  obtain ⟨j, hj, rfl⟩ := nI_of h0
  refine ⟨j, ?_, rfl⟩
  apply Classical.byContradiction
  intro z
  exact h (Or.inr (by rw [nI_clamp hj]; omega))
theorem im_out {v : Int32} (h : ¬ vp_in v 3) : v < 0 ∨ nI 3 ≤ v := by
  rcases in_or (n := 3) v (by decide) with ⟨k, hk, rfl⟩ | c
  · exact absurd (vp_in_nI hk (by decide)) h
  · exact c
/-- what the reference has behind image(k) -/
def imA (MO : MoT) (a : Nat) : Nat → Int32 := upd (upd (upd (cpT (cpA (Mo_all MO) 0 a 474) (Mo_tape MO) (a + 474) 800) (a + 1274) (Mo_taped MO)) (a + 1275) (Mo_faultKind MO)) (a + 1276) (Mo_faultPlace MO)
theorem s_image {MO : MoT} {k : Nat} (hk : k < 3) : FX10_image MO (nI k) = some (true, sMo_isImage (sMo_all MO (imA MO (5688 + 1277 * k))) (upd (Mo_isImage MO) k 1)) := by
  unfold FX10_image
  rw [show FX10_isIn (nI k) 0 2 = some true from isIn_t (a := 0) (b := 2) (by omega) (by omega) (by decide), Option.bind_some, if_neg bI_t]
  dsimp only [nm]
  rw [im_x]
  have ha : 5688 + 1277 * k + 1277 ≤ 9519 := by omega
  have hb : 5688 ≤ 5688 + 1277 * k := by omega
  generalize 5688 + 1277 * k = a at ha hb ⊢
  have x1 : nI a + 474 + 800 = nI (a + 1274) := by rw [show nI a + 474 + 800 = nI (a + 474 + 800) from nI_a2 a 474 800, show a + 474 + 800 = a + 1274 by omega]
  have x2 : nI (a + 1274) + 1 = nI (a + 1275) := nI_add (a + 1274) 1
  have x3 : nI (a + 1274) + 2 = nI (a + 1276) := nI_add (a + 1274) 2
  obtain ⟨a0, a1, a2, a3, a4, a5, a6, a7, a8, a9, a10, a11, a12, a13, a14, a15, a16, a17, a18, a19, a20, a21⟩ := MO
  refine bd_of (M_copies (a := 0) (b := a) (n := 474) (by omega) (by omega) (by omega)) ?_
  refine bd_of (s_imtape ha) ?_
  dsimp only [sMo_all, sMo_isImage, Mo_all, Mo_tape, Mo_taped, Mo_faultKind, Mo_faultPlace, Mo_isImage]
  rw [x1, x2, x3, ix_nI (show a + 1274 < 9519 by omega) (by decide), ix_nI (show a + 1275 < 9519 by omega) (by decide), ix_nI (show a + 1276 < 9519 by omega) (by decide), ix_nI hk (by decide), nI_clamp (show a + 1274 < 2 ^ 31 by omega), nI_clamp (show a + 1275 < 2 ^ 31 by omega), nI_clamp (show a + 1276 < 2 ^ 31 by omega), nI_clamp (show k < 2 ^ 31 by omega)]
  rfl
theorem s_again {MO : MoT} {k : Nat} (hk : k < 3) (hi : Mo_isImage MO k = 1) : FX10_again MO (nI k) = some (true, sMo_undos (sMo_faultPlace (sMo_faultKind (sMo_taped (sMo_tape (sMo_all MO (cpA (Mo_all MO) (5688 + 1277 * k) 0 474)) (cpT (Mo_tape MO) (fun i => Mo_all MO (5688 + 1277 * k + 474 + i)) 0 800)) (Mo_all MO (5688 + 1277 * k + 1274))) (Mo_all MO (5688 + 1277 * k + 1275))) (Mo_all MO (5688 + 1277 * k + 1276))) 0) := by
  unfold FX10_again
  rw [show FX10_isIn (nI k) 0 2 = some true from isIn_t (a := 0) (b := 2) (by omega) (by omega) (by decide), Option.bind_some, if_neg bI_t, ix_nI hk (by decide), nI_clamp (by omega), hi, if_neg (by decide)]
  dsimp only [nm]
  rw [im_x]
  have ha : 5688 + 1277 * k + 1277 ≤ 9519 := by omega
  have hb : 5688 ≤ 5688 + 1277 * k := by omega
  generalize 5688 + 1277 * k = a at ha hb ⊢
  have x1 : nI a + 474 + 800 = nI (a + 1274) := by rw [show nI a + 474 + 800 = nI (a + 474 + 800) from nI_a2 a 474 800, show a + 474 + 800 = a + 1274 by omega]
  have x2 : nI (a + 1274) + 1 = nI (a + 1275) := nI_add (a + 1274) 1
  have x3 : nI (a + 1274) + 2 = nI (a + 1276) := nI_add (a + 1274) 2
  have y0 : ∀ i, 474 ≤ i → cpA (Mo_all MO) a 0 474 i = Mo_all MO i := fun i hi => if_neg (by omega)
  have y1 : (fun i => cpA (Mo_all MO) a 0 474 (a + 474 + i)) = (fun i => Mo_all MO (a + 474 + i)) := by
    funext i
    exact y0 _ (by omega)
  have q := s_agtape (MO := sMo_all MO (cpA (Mo_all MO) a 0 474)) ha
  rw [show (fun i => Mo_all (sMo_all MO (cpA (Mo_all MO) a 0 474)) (a + 474 + i)) = (fun i => Mo_all MO (a + 474 + i)) from y1] at q
  obtain ⟨a0, a1, a2, a3, a4, a5, a6, a7, a8, a9, a10, a11, a12, a13, a14, a15, a16, a17, a18, a19, a20, a21⟩ := MO
  refine bd_of (M_copies (a := a) (b := 0) (n := 474) (by omega) (by omega) (by omega)) ?_
  refine bd_of q ?_
  dsimp only [sMo_all, sMo_tape, sMo_taped, sMo_faultKind, sMo_faultPlace, sMo_undos, Mo_all, Mo_tape, Mo_taped, Mo_faultKind, Mo_faultPlace]
  rw [x1, x2, x3, ix_nI (show a + 1274 < 9519 by omega) (by decide), ix_nI (show a + 1275 < 9519 by omega) (by decide), ix_nI (show a + 1276 < 9519 by omega) (by decide), nI_clamp (show a + 1274 < 2 ^ 31 by omega), nI_clamp (show a + 1275 < 2 ^ 31 by omega), nI_clamp (show a + 1276 < 2 ^ 31 by omega), show cpA a0 a 0 474 (a + 1274) = a0 (a + 1274) from y0 _ (by omega), show cpA a0 a 0 474 (a + 1275) = a0 (a + 1275) from y0 _ (by omega), show cpA a0 a 0 474 (a + 1276) = a0 (a + 1276) from y0 _ (by omega)]
theorem b_image : B_image Rel := by
  rintro ⟨WD, PL, SC, SK, TP, HI, HS, HK, RD, PD, VW, TR, ST, VT, SF, IM⟩ MO v1 h
  refine ⟨fun hv => ?_, fun hv d hd => ?_⟩
  · refine ⟨(false, MO), ?_, rfl, h⟩
    unfold FX10_image
    rw [show FX10_isIn v1 0 2 = some false from isIn_0f (n := 3) (by decide) (im_out hv), Option.bind_some, if_pos bI_f]
  · obtain ⟨k, hk, rfl⟩ := im_in hv
    have hd' : d = (IM (nI k).toNatClampNeg).getD (Wd0, Pl0, Sc0, Sk0, Tp0) := hd
    rw [nI_clamp (by omega)] at hd'
    have h' := h
    obtain ⟨W, ln, h1, h2, h3, h4, h5, h6, h7, h8, h9⟩ := h'
    have hP : PlanOK PL W ln := h3.1
    have hN : NormS SC := h3.2.2.2.1.2.2.2.2.2.2.2.2.2.2.2
    have hz : Nz 150 (Sk_rows SK) := h4.1.2.2
    have dn : NormP d.2.1 ∧ NormS d.2.2.1 ∧ Nz 150 (Sk_rows d.2.2.2.1) := by
      rcases h9 k hk with ⟨e1, -⟩ | ⟨d0, e1, -, W', ln', i1, i2, i3, i4, -⟩
      · have e1' : IM k = none := e1
        rw [e1'] at hd'
        subst hd'
        exact ⟨np0, ns0, fun _ _ => rfl⟩
      · have e1' : IM k = some d0 := e1
        rw [e1'] at hd'
        have : d = d0 := hd'
        subst this
        exact ⟨i3, i4.2.2.1.2.2.2.2.2.2.2.2.2.2.2, i4.2.2.2.1.2.2⟩
    obtain ⟨T, t1, t2⟩ := wtake_eq (d := d) (WD := WD) (PL := PL) (SC := SC) (SK := SK) dn.1 h2 dn.2.1 hN dn.2.2 hz h6
    refine ⟨(WD, PL, SC, SK, T), _, t1, s_image hk, rfl, ?_⟩
    rw [nI_clamp (by omega)]
    have im : ∀ j, (j < 5688 + 1277 * k ∨ 5688 + 1277 * k + 1277 ≤ j) → imA MO (5688 + 1277 * k) j = Mo_all MO j := fun j hj => by
      unfold imA
      rw [u_ne (by omega), u_ne (by omega), u_ne (by omega)]
      exact (if_neg (by omega)).trans (if_neg (by omega))
    have i0 : ∀ i, i < 474 → imA MO (5688 + 1277 * k) (5688 + 1277 * k + i) = Mo_all MO (0 + i) := fun i hi => by
      unfold imA
      rw [u_ne (by omega), u_ne (by omega), u_ne (by omega)]
      refine (if_neg (by omega)).trans ?_
      rw [show cpA (Mo_all MO) 0 (5688 + 1277 * k) 474 (5688 + 1277 * k + i) = Mo_all MO (0 + (5688 + 1277 * k + i - (5688 + 1277 * k))) from if_pos (by omega), show 5688 + 1277 * k + i - (5688 + 1277 * k) = i by omega]
    have i1 : ∀ i, i < 800 → imA MO (5688 + 1277 * k) (5688 + 1277 * k + 474 + i) = Mo_tape MO i := fun i hi => by
      unfold imA
      rw [u_ne (by omega), u_ne (by omega), u_ne (by omega)]
      rw [show cpT (cpA (Mo_all MO) 0 (5688 + 1277 * k) 474) (Mo_tape MO) (5688 + 1277 * k + 474) 800 (5688 + 1277 * k + 474 + i) = Mo_tape MO (5688 + 1277 * k + 474 + i - (5688 + 1277 * k + 474)) from if_pos (by omega), show 5688 + 1277 * k + 474 + i - (5688 + 1277 * k + 474) = i by omega]
    have i2 : imA MO (5688 + 1277 * k) (5688 + 1277 * k + 1274) = Mo_taped MO := by
      unfold imA
      rw [u_ne (by omega), u_ne (by omega), u_eq rfl]
    have i3 : imA MO (5688 + 1277 * k) (5688 + 1277 * k + 1275) = Mo_faultKind MO := by
      unfold imA
      rw [u_ne (by omega), u_eq rfl]
    have i4 : imA MO (5688 + 1277 * k) (5688 + 1277 * k + 1276) = Mo_faultPlace MO := by
      unfold imA
      rw [u_eq rfl]
    generalize imA MO (5688 + 1277 * k) = all' at im i0 i1 i2 i3 i4 ⊢
    refine ⟨W, ln, h1, h2, h3.mv h3.2.2.2.2.1 (by omega) (fun i hi => im _ (by omega)), h4.mv (fun i hi => im _ (by omega)), h5, h6, ?_, h8, ?_⟩
    · obtain ⟨nx, mn, y1, y2, y3, y4, y5, y6, y7⟩ := h7
      exact ⟨nx, mn, y1, y2, y3, y4, y5, fun u hu => (y6 u hu).mv hP (fun i hi => im _ (by omega)), y7⟩
    · intro k' hk'
      by_cases e : k' = k
      · subst e
        refine Or.inr ⟨(WD, PL, SC, SK, T), vup_eq rfl, u_eq rfl, W, ln, hP, h1, h2, ?_, ?_, i3.trans h5.1, i4.trans h5.2⟩
        · exact Seg.mv (β := 0) ⟨h3.2.1, h3.2.2.1, h3.2.2.2.1, h4⟩ hP i0
        · show TapeR T (fun i => all' (5688 + 1277 * k' + 474 + i)) (all' (5688 + 1277 * k' + 1274))
          rw [i2]
          exact t2.cg (fun i hi => i1 i hi)
      · rcases h9 k' hk' with ⟨z1, z2⟩ | ⟨d0, z1, z2, z3⟩
        · exact Or.inl ⟨(vup_ne e).trans z1, (u_ne e).trans z2⟩
        · exact Or.inr ⟨d0, (vup_ne e).trans z1, (u_ne e).trans z2, z3.mv (fun i hi => im _ (by omega))⟩
theorem b_again : B_again Rel := by
  rintro ⟨WD, PL, SC, SK, TP, HI, HS, HK, RD, PD, VW, TR, ST, VT, SF, IM⟩ MO v1 h
  have h' := h
  obtain ⟨W, ln, h1, h2, h3, h4, h5, h6, h7, h8, h9⟩ := h'
  refine ⟨fun hv => ?_, fun hv d hd => ?_⟩
  · refine ⟨(false, MO), ?_, rfl, h⟩
    by_cases hin : vp_in v1 3
    · obtain ⟨k, hk, rfl⟩ := im_in hin
      have hn : IM k = none := by
        rcases hv with z | z
        · exact absurd hin z
        · have z' : IM (nI k).toNatClampNeg = none := z
          rwa [nI_clamp (by omega)] at z'
      have hz : Mo_isImage MO k = 0 := by
        rcases h9 k hk with ⟨-, z⟩ | ⟨d, z, -⟩
        · exact z
        · have z' : IM k = some d := z
          rw [hn] at z'
          cases z'
      unfold FX10_again
      rw [show FX10_isIn (nI k) 0 2 = some true from isIn_t (a := 0) (b := 2) (by omega) (by omega) (by decide), Option.bind_some, if_neg bI_t, ix_nI hk (by decide), nI_clamp (by omega), hz, if_pos rfl]
    · unfold FX10_again
      rw [show FX10_isIn v1 0 2 = some false from isIn_0f (n := 3) (by decide) (im_out hin), Option.bind_some, if_pos bI_f]
  · obtain ⟨k, hk, rfl⟩ := im_in hv
    have hd' : IM (nI k).toNatClampNeg = some d := hd
    rw [nI_clamp (by omega)] at hd'
    have hN : NormS SC := h3.2.2.2.1.2.2.2.2.2.2.2.2.2.2.2
    have hz : Nz 150 (Sk_rows SK) := h4.1.2.2
    rcases h9 k hk with ⟨z, -⟩ | ⟨d0, z1, z2, W', ln', i1, i2, i3, i4, i5, i6, i7⟩
    · have z' : IM k = none := z
      rw [hd'] at z'
      cases z'
    · have z1' : IM k = some d0 := z1
      rw [hd'] at z1'
      have := Option.some.inj z1'
      subst this
      obtain ⟨dw, dp, ds, dk, dt⟩ := d
      obtain ⟨T, t1, t2⟩ := wtake_eq (d := (WD, PL, SC, SK, TP)) (WD := dw) (PL := dp) (SC := ds) (SK := dk) (TP := dt) h2 i3 hN i4.2.2.1.2.2.2.2.2.2.2.2.2.2.2 hz i4.2.2.2.1.2.2 i5
      refine ⟨(dw, dp, ds, dk, T), (0, 0), _, t1, rfl, s_again hk z2, rfl, ?_⟩
      have y0 : ∀ j, 474 ≤ j → cpA (Mo_all MO) (5688 + 1277 * k) 0 474 j = Mo_all MO j := fun j hj => if_neg (by omega)
      have y1 : ∀ i, i < 474 → cpA (Mo_all MO) (5688 + 1277 * k) 0 474 (0 + i) = Mo_all MO (5688 + 1277 * k + i) := fun i hi => by
        rw [show cpA (Mo_all MO) (5688 + 1277 * k) 0 474 (0 + i) = Mo_all MO (5688 + 1277 * k + (0 + i - 0)) from if_pos (by omega), show 0 + i - 0 = i by omega]
      have hseg := i4.mv (γ := 0) i1 y1
      refine ⟨W', ln', i2, i3, ⟨i1, hseg.1, hseg.2.1, hseg.2.2.1, h3.2.2.2.2.1, by omega⟩, hseg.2.2.2, ⟨i6, i7⟩, ?_, ⟨0, 0, by omega, by omega, rfl, rfl, rfl, fun u hu => by omega, ?_⟩, h8, h9.mv (fun j hj => y0 j (by omega))⟩
      · refine TapeR.cg t2 (fun i hi => ?_)
        show (if 0 ≤ i ∧ i < 0 + 800 then Mo_all MO (5688 + 1277 * k + 474 + (i - 0)) else _) = _
        rw [if_pos (by omega), Nat.sub_zero]
      · obtain ⟨nx, mn, -, -, -, -, -, -, y7⟩ := h7
        exact y7
