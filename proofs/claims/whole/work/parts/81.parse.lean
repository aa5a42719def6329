/-! ===== the readers: what both do with a token ===== -/
abbrev ftT (RD : RdT) (F P : Int32) : RdT := (RD.1, F, P, RD.2.2.2)
abbrev alM (MO : MoT) (K P : Int32) : MoT := sMo_alsoPlace (sMo_alsoKind MO K) P
abbrev bdM (MO : MoT) (x : Int32) : MoT := sMo_faultPlace (sMo_faultKind MO 1) x
def FaultR (RD : RdT) (MO : MoT) (q : Nat) : Prop := (Rd_fault RD = 0 ∧ Rd_spot RD = -1 ∧ Mo_alsoKind MO = 0) ∨ ∃ f x, 2 ≤ f ∧ f ≤ 4 ∧ x < q ∧ Rd_fault RD = nI f ∧ Rd_spot RD = nI x ∧ Mo_alsoKind MO = nI f ∧ Mo_alsoPlace MO = nI x
theorem FaultR.up {RD : RdT} {MO : MoT} {q q' : Nat} (h : FaultR RD MO q) (hq : q ≤ q') : FaultR RD MO q' := by
  rcases h with h | ⟨f, x, h1, h2, h3, h4⟩
  · exact Or.inl h
  · exact Or.inr ⟨f, x, h1, h2, by omega, h4⟩
theorem note_also {RD : RdT} {MO : MoT} {q f x : Nat} (hF : FaultR RD MO q) (hf : 2 ≤ f ∧ f ≤ 4) (hx : q ≤ x) (hx' : x < 2 ^ 31) (hs : Rd_start RD = nI x) : ∃ F P F' P', FX2_note RD (nI f) = some (ftT RD F P) ∧ FX10_also MO (nI f) (nI x) = some (alM MO F' P') ∧ FaultR (ftT RD F P) (alM MO F' P') (x + 1) ∧ ¬ F = 0 := by
  rcases hF with ⟨h1, h2, h3⟩ | ⟨f0, x0, h1, h2, h3, h4, h5, h6, h7⟩
  · refine ⟨nI f, nI x, nI f, nI x, ?_, ?_, Or.inr ⟨f, x, hf.1, hf.2, by omega, rfl, rfl, rfl, rfl⟩, nI_ne0 (by omega) (by omega)⟩
    · unfold FX2_note
      refine (if_pos h1).trans ?_
      show some (ftT RD (nI f) (Rd_start RD)) = _
      rw [hs]
    · unfold FX10_also
      rw [h3]
      exact if_pos (by decide)
  · refine ⟨nI f0, nI x0, nI f0, nI x0, ?_, ?_, Or.inr ⟨f0, x0, h1, h2, by omega, rfl, rfl, rfl, rfl⟩, nI_ne0 (by omega) (by omega)⟩
    · unfold FX2_note
      refine (if_neg (show ¬ Rd_fault RD = 0 by rw [h4]; exact nI_ne0 (by omega) (by omega))).trans ?_
      rw [← h4, ← h5]
    · unfold FX10_also
      refine (if_neg (show ¬ Mo_alsoKind MO ≤ 0 by rw [h6]; exact nI_nle (by omega) (by omega))).trans ?_
      refine (if_pos (show Mo_alsoPlace MO < nI x by rw [h7]; exact nI_lt (by omega) hx')).trans ?_
      rw [← h6, ← h7]
theorem good_t {MO : MoT} (h : Mo_faultKind MO = 0) : FX10_isGood MO = some true := if_pos h
theorem good_f {MO : MoT} (h : Mo_faultKind MO = 1) : FX10_isGood MO = some false := if_neg (by rw [h]; decide)
theorem wrong_eq {MO : MoT} (h : Mo_faultKind MO = 0) : FX10_wrong MO = some (bdM MO (Mo_tokenAt MO)) := if_pos (by rw [h]; decide)
/-- the token that both have ahead of them -/
def At (N : Nat) (TP : TpT) (RD : RdT) (MO : MoT) (t t' v : Int32) (v' : Int64) (s e : Nat) : Prop := FX2_scan RD TP = some (rdT RD t (nI s) v (nI e)) ∧ Mo_token MO = t' ∧ Mo_tokenAt MO = nI s ∧ Mo_value MO = v' ∧ Mo_next MO = nI e ∧ TK N t t' v v' s e
section PARSE
variable {C : Nat → Nat} {N : Nat} {TP : TpT} {MO : MoT} {RD : RdT} {PL : PlT}
theorem next_at (hT : TapM C N TP) (hM : RefM C N MO) {p : Nat} (hp : p ≤ N) (h1 : Rd_next RD = nI p) (h2 : Mo_next MO = nI p) : ∃ t t' v v' s e, FX10_takes MO = some (moT MO t' (nI s) v' (nI e)) ∧ p ≤ s ∧ At N TP RD (moT MO t' (nI s) v' (nI e)) t t' v v' s e := by
  obtain ⟨t, t', v, v', s, e, q1, q2, q3, q4⟩ := scan_both hT hM hp h1 h2
  exact ⟨t, t', v, v', s, e, q2, q3, q1, rfl, rfl, rfl, rfl, q4⟩
theorem TK.le {t t' v : Int32} {v' : Int64} {s e : Nat} (h : TK N t t' v v' s e) : s ≤ e ∧ e ≤ N := ⟨h.1, h.2.1⟩
theorem TK.lt {t t' v : Int32} {v' : Int64} {s e : Nat} (h : TK N t t' v v' s e) (h0 : ¬ t = 0) : s < e := by
  rcases h.2.2 with ⟨z, -⟩ | ⟨z, -⟩
  · exact absurd z h0
  · exact z
theorem TK.word {t t' v : Int32} {v' : Int64} {s e : Nat} (h : TK N t t' v v' s e) : (t = 1 ∧ t' = 1 ∧ ∃ idx, v = oI idx ∧ WordR idx v') ∨ (¬ t = 1 ∧ ¬ t' = 1) := by
  rcases h.2.2 with ⟨a, b, -⟩ | ⟨-, ⟨a, b, c⟩ | ⟨a, b, -⟩ | ⟨a, b, -⟩ | ⟨a, b, -⟩ | ⟨a, b⟩⟩
  · right; rw [a, b]; exact ⟨by decide, by decide⟩
  · exact Or.inl ⟨a, b, c⟩
  · right; rw [a, b]; exact ⟨by decide, by decide⟩
  · right; rw [a, b]; exact ⟨by decide, by decide⟩
  · right; rw [a, b]; exact ⟨by decide, by decide⟩
  · right; rw [a, b]; exact ⟨by decide, by decide⟩
theorem TK.num {t t' v : Int32} {v' : Int64} {s e : Nat} (h : TK N t t' v v' s e) : (t = 2 ∧ t' = 2 ∧ ∃ n, n < 100 ∧ v = nI n ∧ v' = lN n) ∨ (¬ t = 2 ∧ ¬ t' = 2) := by
  rcases h.2.2 with ⟨a, b, -⟩ | ⟨-, ⟨a, b, -⟩ | ⟨a, b, c⟩ | ⟨a, b, -⟩ | ⟨a, b, -⟩ | ⟨a, b⟩⟩
  · right; rw [a, b]; exact ⟨by decide, by decide⟩
  · right; rw [a, b]; exact ⟨by decide, by decide⟩
  · exact Or.inl ⟨a, b, c⟩
  · right; rw [a, b]; exact ⟨by decide, by decide⟩
  · right; rw [a, b]; exact ⟨by decide, by decide⟩
  · right; rw [a, b]; exact ⟨by decide, by decide⟩
/-- ; and , -/
theorem TK.sign {t t' v : Int32} {v' : Int64} {s e : Nat} (h : TK N t t' v v' s e) : (t = 3 ∧ t' = 3 ∧ v' = 59) ∨ (t = 4 ∧ t' = 3 ∧ v' = 44) ∨ (¬ t = 3 ∧ ¬ t = 4 ∧ ¬ t' = 3) := by
  rcases h.2.2 with ⟨a, b, -⟩ | ⟨-, ⟨a, b, -⟩ | ⟨a, b, -⟩ | ⟨a, b, c⟩ | ⟨a, b, c⟩ | ⟨a, b⟩⟩
  · right; right; rw [a, b]; exact ⟨by decide, by decide, by decide⟩
  · right; right; rw [a, b]; exact ⟨by decide, by decide, by decide⟩
  · right; right; rw [a, b]; exact ⟨by decide, by decide, by decide⟩
  · exact Or.inl ⟨a, b, c⟩
  · exact Or.inr (Or.inl ⟨a, b, c⟩)
  · right; right; rw [a, b]; exact ⟨by decide, by decide, by decide⟩
theorem TK.zero {t t' v : Int32} {v' : Int64} {s e : Nat} (h : TK N t t' v v' s e) : (t = 0 ∧ t' = 0) ∨ (¬ t = 0 ∧ ¬ t' = 0) := by
  rcases h.2.2 with ⟨a, b, -⟩ | ⟨-, ⟨a, b, -⟩ | ⟨a, b, -⟩ | ⟨a, b, c⟩ | ⟨a, b, c⟩ | ⟨a, b⟩⟩
  · exact Or.inl ⟨a, b⟩
  · right; rw [a, b]; exact ⟨by decide, by decide⟩
  · right; rw [a, b]; exact ⟨by decide, by decide⟩
  · right; rw [a, b]; exact ⟨by decide, by decide⟩
  · right; rw [a, b]; exact ⟨by decide, by decide⟩
  · right; rw [a, b]; exact ⟨by decide, by decide⟩
/-! the class's loop -/
theorem r_go {st st' i : Int32} {t v : Int32} {s e n : Nat} {RD2 : RdT} {PL2 : PlT} (hi : i = nI n) (hn : n ≤ 800) (hs : FX2_scan RD TP = some (rdT RD t (nI s) v (nI e))) (h0 : ¬ (t = 0 ∧ st = 0)) (hf : FX2_follow (rdT RD t (nI s) v (nI e)) PL st = some (st', RD2, PL2)) (hst : ¬ st' = -1) : itr (FX2_read_29 TP) (st, 1, i, RD, PL) = itr (FX2_read_29 TP) (st', 1, nI (n + 1), RD2, PL2) := by
  subst hi
  apply itr_inl
  unfold FX2_read_29
  refine (if_neg (show ¬ (800 : Int32) < nI n from nI_nlt (a := 800) hn (by decide))).trans ?_
  refine (if_neg (show ¬ (1 : Int32) = 0 by decide)).trans ?_
  refine bd_of hs ?_
  have key : FX2_read_j62 (st, 1, nI n, RD, PL) (rdT RD t (nI s) v (nI e)) 1 = some (Sum.inl (st', 1, nI (n + 1), RD2, PL2)) := by
    unfold FX2_read_j62
    refine (if_neg (show ¬ (1 : Int32) = 0 by decide)).trans ?_
    refine bd_of hf ?_
    unfold FX2_read_j73
    refine (if_neg hst).trans ?_
    dsimp only [nm]
    rw [nI_1]
  by_cases c : t = 0
  · refine (if_pos c).trans ?_
    refine (if_neg (fun z => h0 ⟨c, z⟩)).trans ?_
    exact key
  · exact (if_neg c).trans key
theorem r_bad {st i : Int32} {t v : Int32} {s e n : Nat} {RD2 : RdT} {PL2 : PlT} (hi : i = nI n) (hn : n ≤ 800) (hs : FX2_scan RD TP = some (rdT RD t (nI s) v (nI e))) (h0 : ¬ (t = 0 ∧ st = 0)) (hf : FX2_follow (rdT RD t (nI s) v (nI e)) PL st = some (-1, RD2, PL2)) (hst : Rd_start RD2 = nI s) : itr (FX2_read_29 TP) (st, 1, i, RD, PL) = some (ftT RD2 1 (nI s), PL2) := by
  subst hi
  have f1 : FX2_read_29 TP (st, 1, nI n, RD, PL) = some (Sum.inl (-1, 0, nI (n + 1), ftT RD2 1 (nI s), PL2)) := by
    unfold FX2_read_29
    refine (if_neg (show ¬ (800 : Int32) < nI n from nI_nlt (a := 800) hn (by decide))).trans ?_
    refine (if_neg (show ¬ (1 : Int32) = 0 by decide)).trans ?_
    refine bd_of hs ?_
    have key : FX2_read_j62 (st, 1, nI n, RD, PL) (rdT RD t (nI s) v (nI e)) 1 = some (Sum.inl (-1, 0, nI (n + 1), ftT RD2 1 (nI s), PL2)) := by
      unfold FX2_read_j62
      refine (if_neg (show ¬ (1 : Int32) = 0 by decide)).trans ?_
      refine bd_of hf ?_
      unfold FX2_read_j73
      refine (if_pos rfl).trans ?_
      show some (Sum.inl (-1, 0, nI n + 1, ftT RD2 1 (Rd_start RD2), PL2)) = _
      rw [nI_1, hst]
    by_cases c : t = 0
    · refine (if_pos c).trans ?_
      refine (if_neg (fun z => h0 ⟨c, z⟩)).trans ?_
      exact key
    · exact (if_neg c).trans key
  rw [itr_inl f1]
  apply itr_inr
  unfold FX2_read_29
  by_cases c : (800 : Int32) < nI (n + 1)
  · exact if_pos c
  · exact (if_neg c).trans (if_pos rfl)
theorem r_end {i : Int32} {v : Int32} {s e n : Nat} (hi : i = nI n) (hn : n ≤ 800) (hs : FX2_scan RD TP = some (rdT RD 0 (nI s) v (nI e))) : itr (FX2_read_29 TP) (0, 1, i, RD, PL) = some (rdT RD 0 (nI s) v (nI e), PL) := by
  subst hi
  have f1 : FX2_read_29 TP (0, 1, nI n, RD, PL) = some (Sum.inl (0, 0, nI (n + 1), rdT RD 0 (nI s) v (nI e), PL)) := by
    unfold FX2_read_29
    refine (if_neg (show ¬ (800 : Int32) < nI n from nI_nlt (a := 800) hn (by decide))).trans ?_
    refine (if_neg (show ¬ (1 : Int32) = 0 by decide)).trans ?_
    refine bd_of hs ?_
    refine (if_pos rfl).trans ?_
    refine (if_pos rfl).trans ?_
    unfold FX2_read_j62
    refine (if_pos rfl).trans ?_
    unfold FX2_read_j73
    refine (if_neg (show ¬ (0 : Int32) = -1 by decide)).trans ?_
    dsimp only [nm]
    rw [nI_1]
  rw [itr_inl f1]
  apply itr_inr
  unfold FX2_read_29
  by_cases c : (800 : Int32) < nI (n + 1)
  · exact if_pos c
  · exact (if_neg c).trans (if_pos rfl)
/-! the reference's signs and words -/
theorem s_sign {t t' v : Int32} {v' : Int64} {s e c : Nat} (hg : Mo_faultKind MO = 0) (hA : At N TP RD MO t t' v v' s e) (hc : c < 128) : FX10_hasSign MO (nI c) = if t' = 3 ∧ v' = lN c then (FX10_takes MO).bind (fun r => some (true, r)) else some (false, MO) := by
  unfold FX10_hasSign
  rw [good_t hg, Option.bind_some, if_neg bI_t, hA.2.1, hA.2.2.2.1, nI_l (by omega)]
  by_cases c1 : t' = 3
  · rw [if_pos c1]
    by_cases c2 : v' = lN c
    · rw [if_pos ((lg_cmp_eq _ _).mpr c2), if_pos ⟨c1, c2⟩]
    · rw [if_neg (fun z => c2 ((lg_cmp_eq _ _).mp z)), if_neg (fun z => c2 z.2)]
  · rw [if_neg c1, if_neg (fun z => c1 z.1)]
theorem s_word {t t' v : Int32} {v' : Int64} {s e : Nat} (hg : Mo_faultKind MO = 0) (hA : At N TP RD MO t t' v v' s e) (w : Int64) : FX10_hasWord MO w = if t' = 1 ∧ v' = w then (FX10_takes MO).bind (fun r => some (true, r)) else some (false, MO) := by
  unfold FX10_hasWord
  rw [good_t hg, Option.bind_some, if_neg bI_t, hA.2.1, hA.2.2.2.1]
  by_cases c1 : t' = 1
  · rw [if_pos c1]
    by_cases c2 : v' = w
    · rw [if_pos ((lg_cmp_eq _ _).mpr c2), if_pos ⟨c1, c2⟩]
    · rw [if_neg (fun z => c2 ((lg_cmp_eq _ _).mp z)), if_neg (fun z => c2 z.2)]
  · rw [if_neg c1, if_neg (fun z => c1 z.1)]
theorem sign_bad {c : Int32} (hg : Mo_faultKind MO = 1) : FX10_hasSign MO c = some (false, MO) := by
  unfold FX10_hasSign
  rw [good_f hg, Option.bind_some, if_pos bI_f]
/-! a number -/
theorem num_no {t t' v : Int32} {v' : Int64} {s e a b : Nat} (hg : Mo_faultKind MO = 0) (hA : At N TP RD MO t t' v v' s e) (ht : ¬ t = 2) : FX10_numeral MO (nI a) (nI b) = some (nI a, bdM MO (nI s)) ∧ FX2_follow (rdT RD t (nI s) v (nI e)) PL 2 = some (-1, rdT RD t (nI s) v (nI e), PL) := by
  have ht' : ¬ t' = 2 := by
    rcases hA.2.2.2.2.2.num with ⟨z, -⟩ | ⟨-, z⟩
    · exact absurd z ht
    · exact z
  constructor
  · unfold FX10_numeral
    rw [good_t hg, Option.bind_some, if_neg bI_t, hA.2.1, if_neg ht', wrong_eq hg, Option.bind_some, hA.2.2.1]
    unfold FX10_numeral_j19
    rw [good_f rfl, Option.bind_some, if_pos bI_f]
  · unfold FX2_follow
    rw [if_neg (show ¬ (2 : Int32) = 0 by decide), if_neg (show ¬ (2 : Int32) = 1 by decide), if_pos rfl]
    exact if_neg ht
theorem num_bad {a b : Int32} (hg : Mo_faultKind MO = 1) : FX10_numeral MO a b = some (a, MO) := by
  unfold FX10_numeral FX10_numeral_j19
  rw [good_f hg, Option.bind_some, if_pos bI_f, Option.bind_some, if_pos bI_f]
theorem num_yes2 {s e a b wd n : Nat} (hn : n < 100) (hg : Mo_faultKind MO = 0) (hA : At N TP RD MO 2 2 (nI n) (lN n) s e) (hs : s < 2 ^ 31) (hF : FaultR RD MO s) (hw : Rd_word RD = nI wd) (hwd : wd < 15) (hLE : LEf wd = nI a) (hMO : MOf wd = nI b) (hb : b < 100) (ha : a ≤ b) : ∃ F P K Q, FX2_takeNumber (rdT RD 2 (nI s) (nI n) (nI e)) PL = FX2_takeNumber_j39 PL (ftT (rdT RD 2 (nI s) (nI n) (nI e)) F P) ∧ FX10_numeral MO (nI a) (nI b) = (FX10_takes (alM MO K Q)).bind (fun r => some (if a ≤ n ∧ n ≤ b then nI n else nI a, r)) ∧ FaultR (ftT (rdT RD 2 (nI s) (nI n) (nI e)) F P) (alM MO K Q) (s + 1) ∧ (F = 0 → Rd_fault RD = 0 ∧ a ≤ n ∧ n ≤ b) := by
  have e1 : FX9_at 15 LEf (nI wd) = some (nI a) := by rw [at_eq hwd (by decide), hLE]
  have e2 : FX9_at 15 MOf (nI wd) = some (nI b) := by rw [at_eq hwd (by decide), hMO]
  have r0 : ∀ MO2 : MoT, Mo_faultKind MO2 = 0 → Mo_value MO2 = lN n → Mo_tokenAt MO2 = nI s → FX10_numeral_j19 (nI a) (nI b) MO2 = if a ≤ n ∧ n ≤ b then FX10_numeral_j52 (nI a) 1 MO2 else (FX10_also MO2 2 (nI s)).bind (fun r13 => FX10_numeral_j52 (nI a) 0 r13) := fun MO2 h1 h2 h3 => by
    unfold FX10_numeral_j19
    rw [good_t h1, Option.bind_some, if_neg bI_t, h2, lN_i, isIn_eq, Option.bind_some, h3]
    by_cases c : a ≤ n ∧ n ≤ b
    · rw [decide_eq_true ⟨nI_nlt c.1 (by omega), nI_nlt c.2 (by omega)⟩, if_pos c]
      dsimp only [nm]
      rw [if_neg bI_t]
      rfl
    · rw [decide_eq_false (fun z => c ⟨Nat.le_of_not_lt (fun y => z.1 (nI_lt y (by omega))), Nat.le_of_not_lt (fun y => z.2 (nI_lt y (by omega)))⟩), if_neg c]
      dsimp only [nm]
      rw [if_pos bI_f]
      rfl
  have r1 : FX10_numeral MO (nI a) (nI b) = if a ≤ n ∧ n ≤ b then FX10_numeral_j52 (nI a) 1 MO else (FX10_also MO 2 (nI s)).bind (fun r13 => FX10_numeral_j52 (nI a) 0 r13) := by
    rw [← r0 MO hg hA.2.2.2.1 hA.2.2.1]
    unfold FX10_numeral
    rw [good_t hg, Option.bind_some, if_neg bI_t, hA.2.1, if_pos rfl]
  obtain ⟨F, P, K, Q, g1, g2, g3, g4⟩ := note_also (RD := rdT RD 2 (nI s) (nI n) (nI e)) (f := 2) (x := s) hF (by omega) (Nat.le_refl _) hs rfl
  have c1 : FX2_takeNumber (rdT RD 2 (nI s) (nI n) (nI e)) PL = if a ≤ n ∧ n ≤ b then FX2_takeNumber_j39 PL (rdT RD 2 (nI s) (nI n) (nI e)) else FX2_takeNumber_j39 PL (ftT (rdT RD 2 (nI s) (nI n) (nI e)) F P) := by
    unfold FX2_takeNumber
    show (FX9_at 15 LEf (Rd_word RD)).bind _ = _
    rw [hw, e1, Option.bind_some]
    show (if nI n < nI a then _ else (FX9_at 15 MOf (nI wd)).bind _) = _
    rw [e2, Option.bind_some]
    by_cases z1 : a ≤ n
    · rw [if_neg (nI_nlt z1 (by omega))]
      show (if nI n ≤ nI b then _ else _) = _
      by_cases z2 : n ≤ b
      · rw [if_pos (nI_le z2 (by omega)), if_pos ⟨z1, z2⟩]
      · rw [if_neg (nI_ge (by omega) (by omega)), if_neg (fun y => z2 y.2)]
        exact bd_of g1 rfl
    · rw [if_pos (nI_lt (by omega) (by omega)), if_neg (fun y => z1 y.1)]
      exact bd_of g1 rfl
  by_cases c : a ≤ n ∧ n ≤ b
  · refine ⟨Rd_fault RD, Rd_spot RD, Mo_alsoKind MO, Mo_alsoPlace MO, ?_, ?_, hF.up (by omega), fun z => ⟨z, c⟩⟩
    · rw [c1, if_pos c]
    · rw [r1, if_pos c, if_pos c]
      unfold FX10_numeral_j52
      refine (if_neg (by decide)).trans ?_
      dsimp only [nm]
      rw [hA.2.2.2.1, lN_i]
  · refine ⟨F, P, K, Q, ?_, ?_, g3, fun z => absurd z g4⟩
    · rw [c1, if_neg c]
    · rw [r1, if_neg c, if_neg c]
      refine bd_of g2 ?_
      unfold FX10_numeral_j52
      exact if_pos rfl
theorem num_yes {v : Int32} {v' : Int64} {s e a b wd : Nat} (hg : Mo_faultKind MO = 0) (hA : At N TP RD MO 2 2 v v' s e) (hs : s < 2 ^ 31) (hF : FaultR RD MO s) (hw : Rd_word RD = nI wd) (hwd : wd < 15) (hLE : LEf wd = nI a) (hMO : MOf wd = nI b) (hb : b < 100) (ha : a ≤ b) : ∃ n F P K Q, n < 100 ∧ FX2_takeNumber (rdT RD 2 (nI s) v (nI e)) PL = FX2_takeNumber_j39 PL (ftT (rdT RD 2 (nI s) (nI n) (nI e)) F P) ∧ FX10_numeral MO (nI a) (nI b) = (FX10_takes (alM MO K Q)).bind (fun r => some (if a ≤ n ∧ n ≤ b then nI n else nI a, r)) ∧ FaultR (ftT (rdT RD 2 (nI s) (nI n) (nI e)) F P) (alM MO K Q) (s + 1) ∧ (F = 0 → Rd_fault RD = 0 ∧ a ≤ n ∧ n ≤ b) := by
  rcases hA.2.2.2.2.2.num with ⟨-, -, n, hn, rfl, rfl⟩ | ⟨z, -⟩
  · obtain ⟨F, P, K, Q, g⟩ := num_yes2 (PL := PL) hn hg hA hs hF hw hwd hLE hMO hb ha
    exact ⟨n, F, P, K, Q, hn, g⟩
  · exact absurd rfl z
end PARSE
