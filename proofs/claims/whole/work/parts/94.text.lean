/-! ===== text(), on both sides ===== -/
section BTEXT
variable {WD : WdT} {PL : PlT} {SC : ScT} {SK : SkT} {TP : TpT} {HI : HiT} {HS : Nat → ScT} {HK : Nat → SkT} {RD : RdT} {PD : PlT} {VW : VwT} {TR : TrT} {ST : ScT} {VT : VwT} {SF : ScT} {IM : Nat → Option IMT} {MO : MoT}
/-- what the reference has when it begins to read -/
def txM (MO : MoT) : MoT := sMo_all (sMo_next (sMo_namedMany (sMo_alsoKind (sMo_faultPlace (sMo_faultKind (sMo_taped (sMo_size0 MO (Mo_taped MO)) 0) 0) (-1)) 0) 0) 0) (fsA (Mo_all MO) 1422)
theorem tx_eq : FX10_text MO = (FX10_takes (txM MO)).bind fun r9 => (itr FX10_text_49 r9).bind fun uL10 => (FX10_judges uL10).bind fun r15 => (FX10_isGood r15).bind fun r16 => if bI r16 = 0 then some ((-1 : Int32), r15) else (FX10_copies r15 (1422 : Int32) (0 : Int32) (474 : Int32)).bind fun r18 => (FX10_workers (sMo_undos r18 0)).bind fun r20 => some (r20, sMo_undos r18 0) := by
  unfold FX10_text
  dsimp only [nm]
  refine bd_of (M_firsts (β := 1422) (by decide)) ?_
  rfl
end BTEXT
