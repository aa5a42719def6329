/-! ===== the relation of the whole states ===== -/
def NormP (PL : PlT) : Prop := Nz 8 (Pl_lengths PL) ∧ Nz 96 (Pl_kinds PL) ∧ Nz 96 (Pl_numbers PL) ∧ Nz 96 (Pl_reach PL) ∧ Nz 4 (Pl_rooms PL)
def Seg (W : Nat) (ln : Nat → Nat) (PL : PlT) (SC : ScT) (SK : SkT) (all : Nat → Int32) (β : Nat) : Prop := SceneOK W ln SC ∧ SegP PL W ln all β ∧ SegS True SC all β ∧ SegK SK all β
def RelH (W : Nat) (ln : Nat → Nat) (PL : PlT) (HI : HiT) (HS : Nat → ScT) (HK : Nat → SkT) (all : Nat → Int32) (un : Int32) : Prop := ∃ nx mn, nx < 8 ∧ mn ≤ 8 ∧ Hi_next HI = nI nx ∧ Hi_many HI = nI mn ∧ un = nI mn ∧ (∀ u, u < mn → Seg W ln PL (HS ((nx + 8 - mn + u) % 8)) (HK ((nx + 8 - mn + u) % 8)) all (1896 + 474 * u)) ∧ ∀ i, i < 8 → NormS (HS i) ∧ Nz 150 (Sk_rows (HK i))
def TapeR (TP : TpT) (f : Nat → Int32) (len : Int32) : Prop := ∃ n, n ≤ 800 ∧ Tp_length TP = nI n ∧ len = nI n ∧ ∀ i, i < n → ∃ c, c < 256 ∧ Tp_bytes TP i = sb_b c ∧ f i = nI c
def ImgR (d : IMT) (all : Nat → Int32) (at0 : Nat) : Prop := ∃ W ln, PlanOK d.2.1 W ln ∧ ReachOK d.2.1 W ln ∧ NormP d.2.1 ∧ Seg W ln d.2.1 d.2.2.1 d.2.2.2.1 all at0 ∧ TapeR d.2.2.2.2 (fun i => all (at0 + 474 + i)) (all (at0 + 1274)) ∧ all (at0 + 1275) = Wd_fault d.1 ∧ all (at0 + 1276) = Wd_spot d.1
def RelI (IM : Nat → Option IMT) (all : Nat → Int32) (isI : Nat → Int32) : Prop := ∀ k, k < 3 → (IM k = none ∧ isI k = 0) ∨ ∃ d, IM k = some d ∧ isI k = 1 ∧ ImgR d all (5688 + 1277 * k)
def Rel (S : HWS) (MO : MoT) : Prop := ∃ W ln, ReachOK S.2.1 W ln ∧ NormP S.2.1 ∧ Sim True S.2.1 W ln S.2.2.1 MO 0 ∧ SegK S.2.2.2.1 (Mo_all MO) 0 ∧ (Mo_faultKind MO = Wd_fault S.1 ∧ Mo_faultPlace MO = Wd_spot S.1) ∧ TapeR S.2.2.2.2.1 (Mo_tape MO) (Mo_taped MO) ∧ RelH W ln S.2.1 S.2.2.2.2.2.1 S.2.2.2.2.2.2.1 S.2.2.2.2.2.2.2.1 (Mo_all MO) (Mo_undos MO) ∧ (NormP S.2.2.2.2.2.2.2.2.2.1 ∧ NormS S.2.2.2.2.2.2.2.2.2.2.2.2.1 ∧ NormS S.2.2.2.2.2.2.2.2.2.2.2.2.2.2.1) ∧ RelI S.2.2.2.2.2.2.2.2.2.2.2.2.2.2.2 (Mo_all MO) (Mo_isImage MO)
section FRAMES
variable {W : Nat} {ln : Nat → Nat} {PL : PlT} {SC : ScT} {SK : SkT} {all all' : Nat → Int32} {β γ : Nat}
theorem SegK.mv (h : SegK SK all β) (hc : ∀ i, i < 474 → all' (γ + i) = all (β + i)) : SegK SK all' γ := by
  have hc' : ∀ i x y, x = γ + i → y = β + i → i < 474 → all' x = all y := by
    rintro i _ _ rfl rfl hi
    exact hc i hi
  obtain ⟨h0, h1, h2, h3⟩ := h
  have hk := h0.k.1
  exact ⟨h0, (hc' 322 _ _ rfl rfl (by omega)).trans h1, (hc' 323 _ _ rfl rfl (by omega)).trans h2, fun i hi j hj => (hc' (324 + 5 * i + j) _ _ (by omega) (by omega) (by omega)).trans (h3 i hi j hj)⟩
theorem Seg.mv (h : Seg W ln PL SC SK all β) (hP : PlanOK PL W ln) (hc : ∀ i, i < 474 → all' (γ + i) = all (β + i)) : Seg W ln PL SC SK all' γ := ⟨h.1, h.2.1.mv hP (fun i hi => hc i (by omega)), h.2.2.1.mv (fun i hi => hc i (by omega)), h.2.2.2.mv hc⟩
theorem RelH.mv {HI : HiT} {HS : Nat → ScT} {HK : Nat → SkT} {un : Int32} (h : RelH W ln PL HI HS HK all un) (hP : PlanOK PL W ln) (hc : ∀ j, 1896 ≤ j → all' j = all j) : RelH W ln PL HI HS HK all' un := by
  obtain ⟨nx, mn, h1, h2, h3, h4, h5, h6, h7⟩ := h
  exact ⟨nx, mn, h1, h2, h3, h4, h5, fun u hu => (h6 u hu).mv hP (fun i hi => hc _ (by omega)), h7⟩
theorem TapeR.cg {TP : TpT} {f g : Nat → Int32} {l : Int32} (h : TapeR TP f l) (e : ∀ i, i < 800 → g i = f i) : TapeR TP g l := by
  obtain ⟨n, h1, h2, h3, h4⟩ := h
  refine ⟨n, h1, h2, h3, fun i hi => ?_⟩
  obtain ⟨c, c1, c2, c3⟩ := h4 i hi
  exact ⟨c, c1, c2, (e i (by omega)).trans c3⟩
theorem ImgR.mv {d : IMT} (h : ImgR d all β) (hc : ∀ i, i < 1277 → all' (γ + i) = all (β + i)) : ImgR d all' γ := by
  obtain ⟨W, ln, h1, h2, h3, h4, h5, h6, h7⟩ := h
  have hc' : ∀ i x y, x = γ + i → y = β + i → i < 1277 → all' x = all y := by
    rintro i _ _ rfl rfl hi
    exact hc i hi
  refine ⟨W, ln, h1, h2, h3, h4.mv h1 (fun i hi => hc i (by omega)), ?_, (hc' 1275 _ _ rfl rfl (by omega)).trans h6, (hc' 1276 _ _ rfl rfl (by omega)).trans h7⟩
  rw [hc' 1274 (γ + 1274) (β + 1274) rfl rfl (by omega)]
  exact h5.cg (fun i hi => hc' (474 + i) _ _ (by omega) (by omega) (by omega))
theorem RelI.mv {IM : Nat → Option IMT} {isI : Nat → Int32} (h : RelI IM all isI) (hc : ∀ j, 5688 ≤ j → all' j = all j) : RelI IM all' isI := fun k hk => by
  rcases h k hk with a | ⟨d, a1, a2, a3⟩
  · exact Or.inl a
  · exact Or.inr ⟨d, a1, a2, a3.mv (fun i hi => hc _ (by omega))⟩
end FRAMES
section SCR
variable {WD : WdT} {PL : PlT} {SC : ScT} {SK : SkT} {TP : TpT} {HI : HiT} {HS : Nat → ScT} {HK : Nat → SkT} {RD RD' : RdT} {PD PD' : PlT} {VW VW' : VwT} {TR TR' : TrT} {ST ST' : ScT} {VT VT' : VwT} {SF SF' : ScT} {IM : Nat → Option IMT} {MO MO' : MoT}
/-- what of the reference's state must stay -/
def KeepM (MO MO' : MoT) : Prop := Mo_tape MO' = Mo_tape MO ∧ Mo_isImage MO' = Mo_isImage MO ∧ Mo_taped MO' = Mo_taped MO ∧ Mo_faultKind MO' = Mo_faultKind MO ∧ Mo_faultPlace MO' = Mo_faultPlace MO ∧ Mo_undos MO' = Mo_undos MO ∧ Mo_b MO' = Mo_b MO
theorem Rel.scr (h : Rel (WD, PL, SC, SK, TP, HI, HS, HK, RD, PD, VW, TR, ST, VT, SF, IM) MO) (RD' : RdT) (VW' : VwT) (TR' : TrT) (VT' : VwT) (hp : NormP PD') (hs : NormS ST') (hf : NormS SF') (e : KeepM MO MO') (ha : ∀ j, (j < 474 ∨ 1896 ≤ j) → Mo_all MO' j = Mo_all MO j) : Rel (WD, PL, SC, SK, TP, HI, HS, HK, RD', PD', VW', TR', ST', VT', SF', IM) MO' := by
  obtain ⟨W, ln, h1, h2, h3, h4, h5, h6, h7, h8, h9⟩ := h
  obtain ⟨e1, e2, e3, e4, e5, e6, e7⟩ := e
  refine ⟨W, ln, h1, h2, h3.mv (e7.trans h3.2.2.2.2.1) (by omega) (fun i hi => ha _ (by omega)), h4.mv (fun i hi => ha _ (by omega)), ⟨e4.trans h5.1, e5.trans h5.2⟩, ?_, ?_, ⟨hp, hs, hf⟩, ?_⟩
  · rw [e1, e3]
    exact h6
  · rw [e6]
    exact h7.mv h3.1 (fun j hj => ha j (by omega))
  · rw [e2]
    exact h9.mv (fun j hj => ha j (by omega))
theorem KeepM.rf : KeepM MO MO := ⟨rfl, rfl, rfl, rfl, rfl, rfl, rfl⟩
theorem KeepM.al {all : Nat → Int32} : KeepM MO (sMo_all MO all) := ⟨rfl, rfl, rfl, rfl, rfl, rfl, rfl⟩
end SCR
/-! ===== the calls that read alone ===== -/
section EASY
theorem isIn_eq (v a b : Int32) : FX10_isIn v a b = some (decide (¬ v < a ∧ ¬ b < v)) := by
  unfold FX10_isIn
  by_cases c1 : v < a
  · rw [if_pos c1, decide_eq_false (fun z => z.1 c1)]
  · rw [if_neg c1]
    by_cases c2 : b < v
    · rw [if_pos c2, decide_eq_false (fun z => z.2 c2)]
    · rw [if_neg c2, decide_eq_true ⟨c1, c2⟩]
/-- a number is below 0, from n on, or one of those below n -/
theorem in_or {n : Nat} (v : Int32) (hn : n < 2 ^ 31) : (∃ k, k < n ∧ v = nI k) ∨ (v < 0 ∨ nI n ≤ v) := by
  by_cases c1 : v < 0
  · exact Or.inr (Or.inl c1)
  · obtain ⟨j, hj, rfl⟩ := nI_of c1
    by_cases c2 : j < n
    · exact Or.inl ⟨j, c2, rfl⟩
    · exact Or.inr (Or.inr (nI_le (by omega) hj))
theorem isIn_t {k a b : Nat} (h1 : a ≤ k) (h2 : k ≤ b) (hb : b < 2 ^ 31) : FX10_isIn (nI k) (nI a) (nI b) = some true := by
  rw [isIn_eq, decide_eq_true ⟨nI_nlt h1 (by omega), nI_nlt h2 (by omega)⟩]
theorem isIn_0f {v : Int32} {n : Nat} (hn : n < 2 ^ 31) (h : v < 0 ∨ nI n ≤ v) : FX10_isIn v 0 (nI n - 1) = some false := by
  rw [isIn_eq, decide_eq_false]
  rintro ⟨z1, z2⟩
  rcases h with h | h
  · exact z1 h
  · apply z2
    rw [Int32.lt_iff_toInt_lt]
    rw [Int32.le_iff_toInt_le, nI_toInt hn] at h
    have : (nI n - 1).toInt = (n : Int) - 1 := by
      cases n with
      | zero => decide
      | succ m =>
        rw [nI_pred, nI_toInt (by omega)]
        omega
    omega
theorem isIn_0t {k n : Nat} (hn : n < 2 ^ 31) (h : k < n) : FX10_isIn (nI k) 0 (nI n - 1) = some true := by
  cases n with
  | zero => omega
  | succ m =>
    rw [nI_pred]
    exact isIn_t (a := 0) (by omega) (by omega) (by omega)
theorem s_isW {μ : Prop} {PL : PlT} {W : Nat} {ln : Nat → Nat} {SC : ScT} {MO : MoT} {β : Nat} (h : Sim μ PL W ln SC MO β) (v : Int32) : (∃ w, w < W ∧ v = nI w ∧ FX10_isWorker MO v = some true) ∨ ((v < 0 ∨ nI W ≤ v) ∧ FX10_isWorker MO v = some false) := by
  have h8 := h.W8
  unfold FX10_isWorker
  rw [s_workers h, Option.bind_some]
  rcases in_or (n := W) v (by omega) with ⟨k, hk, rfl⟩ | c
  · rw [isIn_0t (by omega) hk]
    exact Or.inl ⟨k, hk, rfl, rfl⟩
  · rw [isIn_0f (by omega) c]
    exact Or.inr ⟨c, rfl⟩
theorem c_isW {PL : PlT} {W : Nat} {ln : Nat → Nat} {WD : WdT} (h : PlanOK PL W ln) {w : Nat} (hw : w < W) : FX9_isWorker WD PL (nI w) = some true := by
  have h8 := h.2.1
  unfold FX9_isWorker
  rw [if_neg (nI_pos (by omega)), h.1, if_neg (nI_ge hw (by omega))]
theorem c_isW_f {PL : PlT} {W : Nat} {ln : Nat → Nat} {WD : WdT} (h : PlanOK PL W ln) {v : Int32} (hv : v < 0 ∨ nI W ≤ v) : FX9_isWorker WD PL v = some false := by
  unfold FX9_isWorker
  by_cases c : v < 0
  · rw [if_pos c]
  · rw [if_neg c, h.1, if_pos (by rcases hv with z | z; exact absurd z c; exact z)]
end EASY
