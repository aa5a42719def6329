/-! ===== text(), on both sides ===== -/
section BTEXT
variable {WD : WdT} {PL : PlT} {SC : ScT} {SK : SkT} {TP : TpT} {HI : HiT} {HS : Nat → ScT} {HK : Nat → SkT} {RD : RdT} {PD : PlT} {VW : VwT} {TR : TrT} {ST : ScT} {VT : VwT} {SF : ScT} {IM : Nat → Option IMT} {MO : MoT}
/-- what the reference has when it begins to read -/
def txM (MO : MoT) : MoT := sMo_all (sMo_next (sMo_namedMany (sMo_alsoKind (sMo_faultPlace (sMo_faultKind (sMo_taped (sMo_size0 MO (Mo_taped MO)) 0) 0) (-1)) 0) 0) 0) (fsA (Mo_all MO) 1422)
theorem tx_eq : FX10_text MO = (FX10_takes (txM MO)).bind fun r9 => (itr FX10_text_49 r9).bind fun uL10 => (FX10_judges uL10).bind fun r15 => (FX10_isGood r15).bind fun r16 => if bI r16 = 0 then some ((-1 : Int32), r15) else (FX10_copies r15 (1422 : Int32) (0 : Int32) (474 : Int32)).bind fun r18 => (FX10_workers (sMo_undos r18 0)).bind fun r20 => some (r20, sMo_undos r18 0) := by
  unfold FX10_text
  dsimp only [nm]
  refine bd_of (M_firsts (β := 1422) (by decide)) ?_
  rfl
theorem tx_tape : Mo_tape (txM MO) = Mo_tape MO := rfl
theorem tx_img : Mo_isImage (txM MO) = Mo_isImage MO := rfl
theorem tx_taped : Mo_taped (txM MO) = 0 := rfl
theorem tx_undos : Mo_undos (txM MO) = Mo_undos MO := rfl
theorem tx_b : Mo_b (txM MO) = Mo_b MO := rfl
theorem tx_size : Mo_size0 (txM MO) = Mo_taped MO := rfl
theorem tx_all : Mo_all (txM MO) = fsA (Mo_all MO) 1422 := rfl
theorem tx_fk : Mo_faultKind (txM MO) = 0 := rfl
theorem tx_next : Mo_next (txM MO) = 0 := rfl
theorem tx_ak : Mo_alsoKind (txM MO) = 0 := rfl
theorem tx_nm : Mo_namedMany (txM MO) = 0 := rfl
theorem fs_out {all : Nat → Int32} {j : Nat} (h : j < 1422 ∨ 1896 ≤ j) : fsA all 1422 j = all j := if_neg (by omega)
theorem fs_in {all : Nat → Int32} {i j : Nat} (h : j = 1422 + i) (hi : i < 474) : fsA all 1422 j = fV i := by
  subst h
  rw [show fsA all 1422 (1422 + i) = fV (1422 + i - 1422) from if_pos (by omega), show 1422 + i - 1422 = i by omega]
/-- a text that is not taken -/
theorem rel_fail (h : Rel (WD, PL, SC, SK, TP, HI, HS, HK, RD, PD, VW, TR, ST, VT, SF, IM) MO) {MOf : MoT} (hK : KeepR (txM MO) MOf) {F P : Int32} (hF : Mo_faultKind MOf = F) (hP : Mo_faultPlace MOf = P) (RD' : RdT) {PD' : PlT} (hp : NormP PD') : Rel ((F, P), PL, SC, SK, sTp_length TP 0, HI, HS, HK, RD', PD', VW, TR, ST, VT, SF, IM) MOf := by
  obtain ⟨W, ln, h1, h2, h3, h4, h5, h6, h7, h8, h9⟩ := h
  obtain ⟨k1, k2, k3, k4, k5, k6, k7⟩ := hK
  have ha : ∀ j, (j < 1422 ∨ 1896 ≤ j) → Mo_all MOf j = Mo_all MO j := fun j hj => (k7 j hj).trans ((congrFun tx_all j).trans (fs_out hj))
  refine ⟨W, ln, h1, h2, h3.mv ((k5.trans tx_b).trans h3.2.2.2.2.1) (by omega) (fun i hi => ha _ (by omega)), h4.mv (fun i hi => ha _ (by omega)), ⟨hF, hP⟩, ⟨0, by omega, rfl, k3.trans tx_taped, fun i hi => by omega⟩, ?_, ⟨hp, h8.2.1, h8.2.2⟩, ?_⟩
  · rw [k4, tx_undos]
    exact h7.mv h3.1 (fun j hj => ha j (by omega))
  · rw [k2, tx_img]
    exact h9.mv (fun j hj => ha j (by omega))
/-- a text that is taken -/
theorem rel_good (h : Rel (WD, PL, SC, SK, TP, HI, HS, HK, RD, PD, VW, TR, ST, VT, SF, IM) MO) {MOf : MoT} (hK : KeepR (txM MO) MOf) (hF : Mo_faultKind MOf = 0) (hQ : Mo_faultPlace MOf = -1) (RD' : RdT) {PLf PLr : PlT} {W : Nat} {ln : Nat → Nat} {RDf : RdT} (hy : Sy RDf PLf MOf ln) (hm : MdL PLf MOf ln W) (hP : PlanOK PLf W ln) (hN : NormP PLf) {f : Nat → Int32} (hr : PLr = sPl_reach PLf f) (hf : Nz 96 f) (hR : ReachOK PLr W ln) : Rel ((0, -1), PLr, bgS PLr, ((Sk_rows SK), 0, 0, 0), sTp_length TP 0, (0, 0), HS, HK, RD', PLf, VW, TR, ST, VT, SF, IM) (sMo_undos (sMo_all MOf (cpA (Mo_all MOf) 1422 0 474)) 0) := by
  obtain ⟨W0, ln0, h1, h2, h3, h4, h5, h6, h7, h8, h9⟩ := h
  obtain ⟨k1, k2, k3, k4, k5, k6, k7⟩ := hK
  have ha : ∀ j, (j < 1422 ∨ 1896 ≤ j) → Mo_all MOf j = Mo_all MO j := fun j hj => (k7 j hj).trans ((congrFun tx_all j).trans (fs_out hj))
  obtain ⟨y1, y2, y3, y4, y5, y6, y7⟩ := hy
  obtain ⟨w1, w2, w3, w4, w5, w6⟩ := hm
  subst hr
  have hfv : ∀ i x, x = 1422 + i → 207 ≤ i → i < 474 → ¬ (240 ≤ i ∧ i < 246) → Mo_all MOf x = 0 := by
    rintro i _ rfl h1 h2 h3
    rw [y6 i h1 h2]
    unfold fV
    rw [if_neg (by omega), if_neg (by omega), if_neg (by omega), if_neg h3]
  have hcp : ∀ i, i < 474 → cpA (Mo_all MOf) 1422 0 474 (0 + i) = Mo_all MOf (1422 + i) := fun i hi => by
    rw [show cpA (Mo_all MOf) 1422 0 474 (0 + i) = Mo_all MOf (1422 + (0 + i - 0)) from if_pos (by omega), show 0 + i - 0 = i by omega]
  have hco : ∀ j, 474 ≤ j → cpA (Mo_all MOf) 1422 0 474 j = Mo_all MOf j := fun j hj => if_neg (by omega)
  have sP : SegP (sPl_reach PLf f) W ln (Mo_all MOf) 1422 := ⟨w3, fun p hp => y3 p hp, fun w hw => (w4 w hw).trans (y1 w hw).1.symm, fun w hw k hk => ⟨(y2 w (by omega) k hk).1, (y2 w (by omega) k hk).2.1⟩⟩
  have sS : SegS True (bgS (sPl_reach PLf f)) (Mo_all MOf) 1422 := by
    refine ⟨y4.1, y5.1, hfv 207 _ rfl (by omega) (by omega) (by omega), fun w hw => hfv (208 + w) _ (by omega) (by omega) (by omega) (by omega), fun w hw => hfv (216 + w) _ (by omega) (by omega) (by omega) (by omega), fun w hw => hfv (224 + w) _ (by omega) (by omega) (by omega) (by omega), fun w hw => hfv (232 + w) _ (by omega) (by omega) (by omega) (by omega), fun w hw => ?_, fun w hw => hfv (246 + w) _ (by omega) (by omega) (by omega) (by omega), fun w hw => hfv (250 + w) _ (by omega) (by omega) (by omega) (by omega), fun _ w hw => hfv (314 + w) _ (by omega) (by omega) (by omega) (by omega), fun _ _ => rfl, fun _ _ => rfl, fun _ _ => rfl, fun _ _ => rfl, fun _ _ => rfl, fun k hk => if_neg (by omega), fun _ _ => rfl, fun _ _ => rfl⟩
    rw [show 1422 + 240 + w = 1422 + (240 + w) by omega, y6 (240 + w) (by omega) (by omega)]
    unfold fV
    rw [if_neg (by omega), if_neg (by omega), if_neg (by omega), if_pos (by omega)]
    exact (if_pos hw).symm
  have sK : SegK ((Sk_rows SK), 0, 0, 0) (Mo_all MOf) 1422 := ⟨⟨⟨0, by omega, rfl⟩, ⟨0, by omega, rfl⟩, h4.1.2.2⟩, hfv 322 _ rfl (by omega) (by omega) (by omega), hfv 323 _ rfl (by omega) (by omega) (by omega), fun i hi => absurd hi (Nat.not_lt_zero i)⟩
  have sO : SceneOK W ln (bgS (sPl_reach PLf f)) := ⟨fun w hw => Or.inr ⟨0, w5 w hw, rfl⟩, fun x hx => Or.inl (if_pos hx), y4.2, y5.2⟩
  have hseg := Seg.mv (W := W) (ln := ln) (PL := sPl_reach PLf f) (SC := bgS (sPl_reach PLf f)) (SK := ((Sk_rows SK), 0, 0, 0)) (all := Mo_all MOf) (all' := cpA (Mo_all MOf) 1422 0 474) (β := 1422) (γ := 0) ⟨sO, sP, sS, sK⟩ hP hcp
  refine ⟨W, ln, hR, ⟨hN.1, hN.2.1, hN.2.2.1, hf, hN.2.2.2.2⟩, ⟨hP, hseg.1, hseg.2.1, hseg.2.2.1, (k5.trans tx_b).trans h3.2.2.2.2.1, by omega⟩, hseg.2.2.2, ⟨hF, hQ⟩, ⟨0, by omega, rfl, k3.trans tx_taped, fun i hi => by omega⟩, ⟨0, 0, by omega, by omega, rfl, rfl, rfl, fun u hu => by omega, ?_⟩, ⟨hN, h8.2.1, h8.2.2⟩, ?_⟩
  · obtain ⟨nx, mn, -, -, -, -, -, -, z⟩ := h7
    exact z
  · show RelI IM (cpA (Mo_all MOf) 1422 0 474) (Mo_isImage MOf)
    rw [k2, tx_img]
    exact h9.mv (fun j hj => (hco j (by omega)).trans (ha j (by omega)))
end BTEXT
