/-! ===== a step of a worker's program ===== -/
def asP (PL : PlT) (w l : Nat) (κ : Int32) : PlT := sPl_numbers (sPl_kinds (sPl_lengths PL (upd (Pl_lengths PL) w (nI (l + 1)))) (upd (Pl_kinds PL) (12 * w + l) κ)) (upd (Pl_numbers PL) (12 * w + l) (-1))
theorem addStep_in {PL : PlT} {w l : Nat} {κ : Int32} (h1 : Pl_workers PL = nI (w + 1)) (hw : w < 8) (h2 : Pl_lengths PL w = nI l) (hl : l < 12) : FX1_addStep PL κ = some (nI (12 * w + l), asP PL w l κ) := by
  unfold FX1_addStep asP
  dsimp only [nm]
  rw [h1, nI_pred, if_neg (nI_pos (by omega)), if_neg (show ¬ (8 : Int32) ≤ nI w from nI_ge (b := 8) hw (by decide)), ix_nI hw (by decide), nI_clamp (by omega), h2, if_pos (show nI l < (12 : Int32) from nI_lt (b := 12) hl (by decide)), ix_nI hw (by decide), show nI w * 12 + nI l = nI (12 * w + l) from by rw [show (12 : Int32) = nI 12 from rfl, pk_mul, nI_add]; congr 1; omega, ix_nI hw (by decide), ix_nI hw (by decide), ix_nI (by omega) (by decide), ix_nI (by omega) (by decide), nI_clamp (by omega), nI_1]
theorem addStep_no {PL : PlT} {κ : Int32} (h : Pl_workers PL = nI 0 ∨ ∃ w, w < 8 ∧ Pl_workers PL = nI (w + 1) ∧ Pl_lengths PL w = nI 12) : FX1_addStep PL κ = some (-1, PL) := by
  unfold FX1_addStep
  dsimp only [nm]
  rcases h with h | ⟨w, hw, h1, h2⟩
  · rw [h]
    exact if_pos (by decide)
  · rw [h1, nI_pred, if_neg (nI_pos (by omega)), if_neg (show ¬ (8 : Int32) ≤ nI w from nI_ge (b := 8) hw (by decide)), ix_nI hw (by decide), nI_clamp (by omega), h2, if_neg (by decide)]
theorem as_safe {PL : PlT} {w l : Nat} {κ : Int32} (h : Safe PL) (hw : w < 8) (hl : l < 12) : Safe (asP PL w l κ) := by
  obtain ⟨h1, h2, n1, n2, n3, n4, n5⟩ := h
  refine ⟨h1, fun x hx => ?_, n1.up hw _, n2.up (by omega) _, n3.up (by omega) _, n4, n5⟩
  by_cases e : x = w
  · exact ⟨l + 1, by omega, u_eq e⟩
  · obtain ⟨y, y1, y2⟩ := h2 x hx
    exact ⟨y, y1, (u_ne e).trans y2⟩
theorem addStep_any {PL : PlT} {κ : Int32} (h : Safe PL) : ∃ c PL', FX1_addStep PL κ = some (c, PL') ∧ Safe PL' := by
  obtain ⟨W, hW, eW⟩ := h.1
  cases W with
  | zero => exact ⟨_, _, addStep_no (Or.inl eW), h⟩
  | succ w =>
    obtain ⟨l, hl, el⟩ := h.2.1 w (by omega)
    by_cases c : l < 12
    · exact ⟨_, _, addStep_in eW (by omega) el c, as_safe h (by omega) c⟩
    · have : l = 12 := by omega
      subst this
      exact ⟨_, _, addStep_no (Or.inr ⟨w, by omega, eW, el⟩), h⟩
theorem so_eq : ∀ j, j < 10 → SOf j = lN (csK j) := by decide +kernel
theorem sort_in {v : Int64} {wi : Option Nat} {κ : Nat} (hw : ∀ k, k < 14 → (v = lN (csK k) ↔ wi = some k)) (h : wi = some κ) (hκ : κ < 10) : FX10_sortOf v = some (nI κ) := by
  have q : itr (FX10_sortOf_2 v) (0 : Int32) = some (Sum.inr (nI κ)) := by
    refine itr_chain (fun i => nI i) κ (fun i hi => ?_) ?_
    · unfold FX10_sortOf_2
      refine (if_neg (show ¬ (9 : Int32) < nI i from nI_nlt (a := 9) (by omega) (by decide))).trans ?_
      rw [ix_nI (by omega) (by decide), nI_clamp (by omega), so_eq i (by omega)]
      refine (if_neg (fun z => ?_)).trans ?_
      · have := (hw i (by omega)).mp ((lg_cmp_eq _ _).mp z).symm
        rw [h] at this
        have := Option.some.inj this
        omega
      · dsimp only [nm]
        rw [nI_1]
    · unfold FX10_sortOf_2
      refine (if_neg (show ¬ (9 : Int32) < nI κ from nI_nlt (a := 9) (by omega) (by decide))).trans ?_
      rw [ix_nI (by omega) (by decide), nI_clamp (by omega), so_eq κ hκ]
      exact if_pos ((lg_cmp_eq _ _).mpr ((hw κ (by omega)).mpr h).symm)
  unfold FX10_sortOf
  rw [q]
  rfl
theorem sort_out {v : Int64} {wi : Option Nat} (hw : ∀ k, k < 14 → (v = lN (csK k) ↔ wi = some k)) (h : ∀ κ, κ < 10 → ¬ wi = some κ) : FX10_sortOf v = some (-1) := by
  have q : itr (FX10_sortOf_2 v) (0 : Int32) = some (Sum.inl ()) := by
    refine itr_chain (fun i => nI i) 10 (fun i hi => ?_) ?_
    · unfold FX10_sortOf_2
      refine (if_neg (show ¬ (9 : Int32) < nI i from nI_nlt (a := 9) (by omega) (by decide))).trans ?_
      rw [ix_nI (by omega) (by decide), nI_clamp (by omega), so_eq i hi]
      refine (if_neg (fun z => h i hi ((hw i (by omega)).mp ((lg_cmp_eq _ _).mp z).symm))).trans ?_
      dsimp only [nm]
      rw [nI_1]
    · unfold FX10_sortOf_2
      exact if_pos (show (9 : Int32) < nI 10 by decide)
  unfold FX10_sortOf
  rw [q]
  rfl
/-! how many name another worker -/
theorem rc_cg {ki ki' : Nat → Int32} {w k : Nat} (h : ∀ j, j < k → ki (12 * w + j) = ki' (12 * w + j)) : rcN ki w k = rcN ki' w k := pc_congr (fun j hj => by unfold nmB; rw [h j hj])
theorem tt_cg {ki ki' : Nat → Int32} {ln ln' : Nat → Nat} : ∀ n, (∀ w, w < n → ln w = ln' w ∧ ∀ j, j < ln w → ki (12 * w + j) = ki' (12 * w + j)) → ttN ki ln n = ttN ki' ln' n
  | 0, _ => rfl
  | n + 1, h => by
    show ttN ki ln n + rcN ki n (ln n) = ttN ki' ln' n + rcN ki' n (ln' n)
    rw [tt_cg n (fun w hw => h w (by omega)), rc_cg (h n (by omega)).2, (h n (by omega)).1]
theorem tt_tail {ki : Nat → Int32} {ln : Nat → Nat} {W : Nat} (hW : W < 8) (h : ∀ w, W < w → w < 8 → ln w = 0) : ttN ki ln 8 = ttN ki ln W + rcN ki W (ln W) := by
  have key : ∀ d, W + 1 + d ≤ 8 → ttN ki ln (W + 1 + d) = ttN ki ln W + rcN ki W (ln W) := by
    intro d
    induction d with
    | zero => exact fun _ => rfl
    | succ d ih =>
      intro hd
      show ttN ki ln (W + 1 + d) + rcN ki (W + 1 + d) (ln (W + 1 + d)) = _
      rw [ih (by omega), h (W + 1 + d) (by omega) (by omega)]
      rfl
  have := key (7 - W) (by omega)
  rw [show W + 1 + (7 - W) = 8 by omega] at this
  exact this
/-- one step more, in both -/
theorem sy_step {RD RD' : RdT} {PL PL' : PlT} {MO MO' : MoT} {ln : Nat → Nat} {W k κ : Nat} {n at0 : Int32} (hS : Sy RD PL MO ln) (hW : MdW PL MO ln W) (hk : ln W = k) (hk12 : k < 12) (hst : StepO (nI κ) n)
    (p1 : Pl_lengths PL' = upd (Pl_lengths PL) W (nI (k + 1))) (p2 : Pl_kinds PL' = upd (Pl_kinds PL) (12 * W + k) (nI κ)) (p3 : Pl_numbers PL' = upd (Pl_numbers PL) (12 * W + k) n) (p4 : Pl_rooms PL' = Pl_rooms PL ∧ Pl_window PL' = Pl_window PL ∧ Pl_grace PL' = Pl_grace PL ∧ Pl_workers PL' = Pl_workers PL)
    (r1 : ∀ j, j ≠ 12 * W + k → Rd_spots RD' j = Rd_spots RD j) (m1 : Mo_all MO' = upd (upd (Mo_all MO) (1437 + 12 * W + k) (nI κ)) (1533 + 12 * W + k) n)
    (m2 : (¬ (κ = 5 ∨ κ = 6) ∧ Mo_named MO' = Mo_named MO ∧ Mo_namedBy MO' = Mo_namedBy MO ∧ Mo_namedAt MO' = Mo_namedAt MO ∧ Mo_namedMany MO' = Mo_namedMany MO) ∨ ((κ = 5 ∨ κ = 6) ∧ Rd_spots RD' (12 * W + k) = at0 ∧ ∃ c, Mo_namedMany MO = nI c ∧ c < 400 ∧ Mo_named MO' = upd (Mo_named MO) c n ∧ Mo_namedBy MO' = upd (Mo_namedBy MO) c (nI W) ∧ Mo_namedAt MO' = upd (Mo_namedAt MO) c at0 ∧ Mo_namedMany MO' = nI (c + 1))) (hκ : κ < 10) :
    ∃ ln', Sy RD' PL' MO' ln' ∧ MdW PL' MO' ln' W ∧ ln' W = k + 1 := by
  obtain ⟨y1, y2, y3, y4, y5, y6, y7, y8⟩ := hS
  obtain ⟨w1, w2, w3, w4, w5, w6⟩ := hW
  obtain ⟨lm, hlW, hlo⟩ : ∃ lm : Nat → Nat, lm W = k + 1 ∧ ∀ w, w ≠ W → lm w = ln w := ⟨fun w => if w = W then k + 1 else ln w, if_pos rfl, fun w h => if_neg h⟩
  have a1 : ∀ j, j ≠ 1437 + 12 * W + k → j ≠ 1533 + 12 * W + k → Mo_all MO' j = Mo_all MO j := fun j h1 h2 => by rw [m1, u_ne h2, u_ne h1]
  have kk : ∀ w, w < 8 → ∀ j, j < ln w → Pl_kinds PL' (12 * w + j) = Pl_kinds PL (12 * w + j) ∧ Pl_numbers PL' (12 * w + j) = Pl_numbers PL (12 * w + j) ∧ 12 * w + j ≠ 12 * W + k := fun w hw j hj => by
    have hne : 12 * w + j ≠ 12 * W + k := by
      have := (y1 w hw).2
      by_cases e : w = W
      · subst e
        omega
      · omega
    rw [p2, p3, u_ne hne, u_ne hne]
    exact ⟨rfl, rfl, hne⟩
  have ttW : ∀ w, w ≤ W → ttN (Pl_kinds PL') lm w = ttN (Pl_kinds PL) ln w := fun w hw => tt_cg w (fun x hx => by
    have e : lm x = ln x := hlo x (by omega)
    exact ⟨e, fun j hj => (kk x (by omega) j (by omega)).1⟩)
  have rck : rcN (Pl_kinds PL') W k = rcN (Pl_kinds PL) W k := rc_cg (fun j hj => (kk W w1 j (by omega)).1)
  have hz : ∀ w, W < w → w < 8 → lm w = 0 := fun w h1 h2 => (hlo w (by omega)).trans (w6 w h1 h2)
  have tot' : ttN (Pl_kinds PL') lm 8 = ttN (Pl_kinds PL) ln W + (rcN (Pl_kinds PL) W k + (if nmB (Pl_kinds PL') W k = true then 1 else 0)) := by
    rw [tt_tail w1 hz, ttW W (Nat.le_refl _), hlW, ← rck]
    rfl
  have tot : ttN (Pl_kinds PL) ln 8 = ttN (Pl_kinds PL) ln W + rcN (Pl_kinds PL) W k := by rw [tt_tail w1 w6, hk]
  have kn : Pl_kinds PL' (12 * W + k) = nI κ ∧ Pl_numbers PL' (12 * W + k) = n := by
    rw [p2, p3]
    exact ⟨u_eq rfl, u_eq rfl⟩
  have nb : nmB (Pl_kinds PL') W k = decide (κ = 5 ∨ κ = 6) := by
    unfold nmB
    rw [kn.1]
    by_cases c : κ = 5 ∨ κ = 6
    · rw [decide_eq_true c, decide_eq_true (by rcases c with rfl | rfl; exact Or.inl rfl; exact Or.inr rfl)]
    · rw [decide_eq_false c, decide_eq_false (fun z => c (by rcases z with z | z; exact Or.inl (nI_inj (by omega) (by decide) z); exact Or.inr (nI_inj (by omega) (by decide) z)))]
  -- what was named before is below what is named now
  have low : ∀ w, w < 8 → ∀ j, j < ln w → nmB (Pl_kinds PL) w j = true → ttN (Pl_kinds PL) ln w + rcN (Pl_kinds PL) w j < ttN (Pl_kinds PL) ln 8 := fun w hw j hj hn => by
    have mono : ∀ a d, ttN (Pl_kinds PL) ln a ≤ ttN (Pl_kinds PL) ln (a + d) := fun a d => by
      induction d with
      | zero => exact Nat.le_refl _
      | succ d ih => exact Nat.le_trans ih (Nat.le_add_right _ _)
    have m8 := mono (w + 1) (7 - w)
    rw [show w + 1 + (7 - w) = 8 by omega] at m8
    have st : ∀ d, rcN (Pl_kinds PL) w (j + 1) ≤ rcN (Pl_kinds PL) w (j + 1 + d) := fun d => by
      induction d with
      | zero => exact Nat.le_refl _
      | succ d ih => exact Nat.le_trans ih (Nat.le_add_right _ _)
    have s1 := st (ln w - (j + 1))
    rw [show j + 1 + (ln w - (j + 1)) = ln w by omega] at s1
    have s2 : rcN (Pl_kinds PL) w (j + 1) = rcN (Pl_kinds PL) w j + 1 := by
      show pc (nmB (Pl_kinds PL) w) j + (if nmB (Pl_kinds PL) w j = true then 1 else 0) = _
      rw [if_pos hn]
      rfl
    have s3 : ttN (Pl_kinds PL) ln (w + 1) = ttN (Pl_kinds PL) ln w + rcN (Pl_kinds PL) w (ln w) := rfl
    omega
  refine ⟨lm, ⟨fun w hw => ?_, fun w hw j hj => ?_, fun p hp => ?_, ⟨?_, ?_⟩, ⟨?_, ?_⟩, fun i hi hi' => ?_, ?_, fun w hw j hj hn => ?_⟩, ⟨w1, p4.2.2.2.trans w2, ?_, fun w hw => ?_, fun w hw => ?_, hz⟩, hlW⟩
  · rw [p1]
    by_cases e : w = W
    · rw [u_eq e, e, hlW]
      exact ⟨rfl, by omega⟩
    · rw [u_ne e, hlo w e]
      exact y1 w hw
  · by_cases e : w = W ∧ j = k
    · obtain ⟨rfl, rfl⟩ := e
      rw [kn.1, kn.2, m1, u_ne (by omega), u_eq rfl, u_eq rfl]
      exact ⟨rfl, rfl, hst⟩
    · have hj' : j < ln w := by
        by_cases ew : w = W
        · subst ew
          omega
        · rw [hlo w ew] at hj
          exact hj
      have h12 := (y1 w hw).2
      obtain ⟨x1, x2, x3⟩ := kk w hw j hj'
      rw [x1, x2, a1 _ (by omega) (by omega), a1 _ (by omega) (by omega)]
      exact y2 w hw j hj'
  · rw [p4.1, a1 _ (by omega) (by omega)]
    exact y3 p hp
  · rw [p4.2.1, a1 _ (by omega) (by omega)]
    exact y4.1
  · rw [p4.2.1]
    exact y4.2
  · rw [p4.2.2.1, a1 _ (by omega) (by omega)]
    exact y5.1
  · rw [p4.2.2.1]
    exact y5.2
  · rw [a1 _ (by omega) (by omega)]
    exact y6 i hi hi'
  · rw [tot', nb]
    rcases m2 with ⟨c, -, -, -, e⟩ | ⟨c, -, cc, e1, hcc, -, -, -, e2⟩
    · rw [decide_eq_false c, if_neg (by decide), e, y7, tot]
      rfl
    · rw [decide_eq_true c, if_pos rfl, e2]
      rw [y7] at e1
      have hb : ttN (Pl_kinds PL) ln 8 < 2 ^ 31 := by
        have b1 : ∀ w, ttN (Pl_kinds PL) ln w ≤ 12 * w ∨ ¬ w ≤ 8 := fun w => by
          induction w with
          | zero => exact Or.inl (Nat.le_refl _)
          | succ w ih =>
            by_cases c8 : w + 1 ≤ 8
            · left
              have i1 : ttN (Pl_kinds PL) ln w ≤ 12 * w := by rcases ih with z | z; exact z; omega
              have i2 : rcN (Pl_kinds PL) w (ln w) ≤ ln w := pc_le _
              have i3 := (y1 w (by omega)).2
              show ttN (Pl_kinds PL) ln w + rcN (Pl_kinds PL) w (ln w) ≤ 12 * (w + 1)
              omega
            · exact Or.inr c8
        rcases b1 8 with z | z
        · omega
        · omega
      have := nI_inj hb (by omega) e1
      rw [← this, tot]
      rfl
  · by_cases e : w = W ∧ j = k
    · obtain ⟨rfl, rfl⟩ := e
      rw [ttW w (Nat.le_refl _), rck, kn.2]
      rw [nb] at hn
      have c := of_decide_eq_true hn
      rcases m2 with ⟨c', -⟩ | ⟨-, sp, cc, e1, e2, n1, n2, n3, n4⟩
      · exact absurd c c'
      · rw [y7] at e1
        have hb : ttN (Pl_kinds PL) ln 8 < 2 ^ 31 := by
          have b1 : ∀ w, ttN (Pl_kinds PL) ln w ≤ 12 * w ∨ ¬ w ≤ 8 := fun w => by
            induction w with
            | zero => exact Or.inl (Nat.le_refl _)
            | succ w ih =>
              by_cases c8 : w + 1 ≤ 8
              · left
                have i1 : ttN (Pl_kinds PL) ln w ≤ 12 * w := by rcases ih with z | z; exact z; omega
                have i2 : rcN (Pl_kinds PL) w (ln w) ≤ ln w := pc_le _
                have i3 := (y1 w (by omega)).2
                show ttN (Pl_kinds PL) ln w + rcN (Pl_kinds PL) w (ln w) ≤ 12 * (w + 1)
                omega
              · exact Or.inr c8
          rcases b1 8 with z | z
          · omega
          · omega
        have ec := nI_inj hb (by omega) e1
        rw [n1, n2, n3, ← ec, tot, u_eq rfl, u_eq rfl, u_eq rfl]
        exact ⟨rfl, rfl, sp.symm⟩
    · have hj' : j < ln w := by
        by_cases ew : w = W
        · subst ew
          omega
        · rw [hlo w ew] at hj
          exact hj
      obtain ⟨x1, x2, x3⟩ := kk w hw j hj'
      have hwW : w ≤ W := by
        apply Nat.le_of_not_lt
        intro z
        rw [w6 w z hw] at hj'
        omega
      have hn' : nmB (Pl_kinds PL) w j = true := by
        unfold nmB at hn ⊢
        rw [x1] at hn
        exact hn
      have er : rcN (Pl_kinds PL') w j = rcN (Pl_kinds PL) w j := rc_cg (fun l hl' => (kk w hw l (by omega)).1)
      have lo := low w hw j hj' hn'
      obtain ⟨o1, o2, o3⟩ := y8 w hw j hj' hn'
      rw [ttW w hwW, er, x2, r1 _ x3]
      rcases m2 with ⟨-, n1, n2, n3, -⟩ | ⟨-, -, cc, e1, e2, n1, n2, n3, -⟩
      · rw [n1, n2, n3]
        exact ⟨o1, o2, o3⟩
      · rw [y7] at e1
        have hne : ttN (Pl_kinds PL) ln w + rcN (Pl_kinds PL) w j ≠ cc := by
          intro z
          have e1' := congrArg Int32.toInt e1
          rw [nI_toInt (n := cc) (by omega)] at e1'
          by_cases hb : ttN (Pl_kinds PL) ln 8 < 2 ^ 31
          · rw [nI_toInt hb] at e1'
            omega
          · have b1 : ∀ w, ttN (Pl_kinds PL) ln w ≤ 12 * w ∨ ¬ w ≤ 8 := fun w => by
              induction w with
              | zero => exact Or.inl (Nat.le_refl _)
              | succ w ih =>
                by_cases c8 : w + 1 ≤ 8
                · left
                  have i1 : ttN (Pl_kinds PL) ln w ≤ 12 * w := by rcases ih with z | z; exact z; omega
                  have i2 : rcN (Pl_kinds PL) w (ln w) ≤ ln w := pc_le _
                  have i3 := (y1 w (by omega)).2
                  show ttN (Pl_kinds PL) ln w + rcN (Pl_kinds PL) w (ln w) ≤ 12 * (w + 1)
                  omega
                · exact Or.inr c8
            rcases b1 8 with z' | z'
            · omega
            · omega
        rw [n1, n2, n3, u_ne hne, u_ne hne, u_ne hne]
        exact ⟨o1, o2, o3⟩
  · rw [a1 _ (by omega) (by omega)]
    exact w3
  · rw [a1 _ (by omega) (by omega), w4 w hw]
    by_cases e : w = W
    · rw [if_pos e, if_pos e]
    · rw [if_neg e, if_neg e, hlo w e]
  · rw [hlo w (by omega)]
    exact w5 w hw
