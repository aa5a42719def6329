/-! ===== neighbours, letting go, states laid aside ===== -/
theorem bd_of {α γ : Type} {x : Option α} {a : α} {f : α → Option γ} {r : Option γ} (h : x = some a) (h2 : f a = r) : x.bind f = r := by rw [h]; exact h2
def nbF (P : Nat → Bool) (W w : Nat) : Nat → Nat → Int32
  | 0, _ => -1
  | d + 1, j => if P ((w + j) % W) = true then nI ((w + j) % W) else nbF P W w d (j + 1)
def nbP (PL : PlT) (W : Nat) (ln : Nat → Nat) (SC : ScT) (o : Nat) : Bool := !enB SC o && !bt (hdS PL W ln SC) o
def nbS (PL : PlT) (W : Nat) (ln : Nat → Nat) (SC : ScT) (w : Nat) : Int32 := nbF (nbP PL W ln SC) W w (W - 1) 1
def lgS (PL : PlT) (ln : Nat → Nat) (SC : ScT) (w : Nat) : ScT := finS (if kdN PL SC w = nI 1 then sSc_holders SC (upd (Sc_holders SC) (nuN PL SC w).toNatClampNeg (nI w)) else SC) w (nextP (kdN PL SC w) (pl SC w) (ln w))
section LETGO
variable {μ : Prop} {PL : PlT} {W : Nat} {ln : Nat → Nat} {SC : ScT} {MO : MoT} {β : Nat}
theorem c_nb {VW : VwT} (hW : W ≤ 8) (hV : ViewOK PL W ln SC VW) {w : Nat} (hw : w < W) : FX7_neighbour VW (nI w) = some (nbS PL W ln SC w) := by
  have key : ∀ d j, j + d = W → 1 ≤ j → (itr (FX7_neighbour_2 VW (nI w)) (nI j)).bind (fun exL1 => Sum.elim (fun _ => some (-1 : Int32)) (fun uL1 => some uL1) exL1) = some (nbF (nbP PL W ln SC) W w d j) := by
    intro d
    induction d with
    | zero =>
      intro j hd h1
      have f0 : FX7_neighbour_2 VW (nI w) (nI j) = some (Sum.inr (Sum.inl ())) := by
        unfold FX7_neighbour_2
        rw [hV.1, if_pos (nI_le (by omega) (by omega))]
      rw [itr_inr f0]
      rfl
    | succ d ih =>
      intro j hd h1
      have hm : (w + j) % W < W := Nat.mod_lt _ (by omega)
      have f1 : FX7_neighbour_2 VW (nI w) (nI j) = FX7_neighbour_j34 VW (nI j) (nI ((w + j) % W)) := by
        unfold FX7_neighbour_2
        rw [hV.1, if_neg (nI_ge (by omega) (by omega)), nI_add]
        by_cases hl : W ≤ w + j
        · rw [if_pos (nI_le hl (by omega)), pk_sub hl, show (w + j) % W = w + j - W from by rw [Nat.mod_eq_sub_mod hl, Nat.mod_eq_of_lt (by omega)]]
        · rw [if_neg (nI_ge (by omega) (by omega)), Nat.mod_eq_of_lt (by omega)]
      have f0 : FX7_neighbour_2 VW (nI w) (nI j) = if nbP PL W ln SC ((w + j) % W) = true then some (Sum.inr (Sum.inr (nI ((w + j) % W)))) else some (Sum.inl (nI (j + 1))) := by
        rw [f1]
        unfold FX7_neighbour_j34 nbP
        simp only [nm]
        rw [hV.2.1, hV.2.2.2.2.1, c_has _ (by omega), c_has _ (by omega), b_mk _ W (by omega) _ (by omega), decide_eq_true hm, Bool.true_and, nI_1]
        simp only [Option.bind_some]
        cases enB SC ((w + j) % W)
        · rw [if_pos bI_f]
          cases bt (hdS PL W ln SC) ((w + j) % W)
          · rw [if_pos bI_f]
            rfl
          · rw [if_neg bI_t]
            rfl
        · rw [if_neg bI_t]
          rfl
      unfold nbF
      by_cases z : nbP PL W ln SC ((w + j) % W) = true
      · rw [if_pos z] at f0 ⊢
        rw [itr_inr f0]
        rfl
      · rw [if_neg z] at f0 ⊢
        rw [itr_inl f0]
        exact ih (j + 1) (by omega) (by omega)
  exact key (W - 1) 1 (by omega) (Nat.le_refl _)
theorem s_nb (h : Sim μ PL W ln SC MO β) {w : Nat} (hw : w < W) : FX10_neighbour MO (nI w) (hdS PL W ln SC) = some (nbS PL W ln SC w) := by
  have h8 := h.W8
  have key : ∀ d j, j + d = W → 1 ≤ j → (itr (FX10_neighbour_2 MO (nI w) (hdS PL W ln SC)) (nI j)).bind (fun exL1 => Sum.elim (fun _ => some (-1 : Int32)) (fun uL1 => some uL1) exL1) = some (nbF (nbP PL W ln SC) W w d j) := by
    intro d
    induction d with
    | zero =>
      intro j hd h1
      have f0 : FX10_neighbour_2 MO (nI w) (hdS PL W ln SC) (nI j) = some (Sum.inr (Sum.inl ())) := by
        unfold FX10_neighbour_2
        rw [s_workers h, Option.bind_some, if_pos (nI_le (by omega) (by omega))]
      rw [itr_inr f0]
      rfl
    | succ d ih =>
      intro j hd h1
      have hm : (w + j) % W < W := Nat.mod_lt _ (by omega)
      have f0 : FX10_neighbour_2 MO (nI w) (hdS PL W ln SC) (nI j) = if nbP PL W ln SC ((w + j) % W) = true then some (Sum.inr (Sum.inr (nI ((w + j) % W)))) else some (Sum.inl (nI (j + 1))) := by
        unfold FX10_neighbour_2 nbP
        simp only [nm]
        rw [s_workers h, Option.bind_some, if_neg (nI_ge (by omega) (by omega)), Option.bind_some, show ∀ k : Option (Int32 ⊕ (Unit ⊕ Int32)), nz (nI W) k = k from fun k => if_neg (nI_ne0 (by omega) (by omega)), nI_add, pk_rem (by omega) (by omega) (by omega), s_ended h hm, Option.bind_some, m_has _ (show (w + j) % W < 32 by omega), nI_1]
        simp only [Option.bind_some]
        show (if bI (enB SC ((w + j) % W)) = 0 then _ else _) = _
        cases enB SC ((w + j) % W)
        · rw [if_pos bI_f]
          cases bt (hdS PL W ln SC) ((w + j) % W)
          · rw [if_pos bI_f]
            rfl
          · rw [if_neg bI_t]
            rfl
        · rw [if_neg bI_t]
          rfl
      unfold nbF
      by_cases z : nbP PL W ln SC ((w + j) % W) = true
      · rw [if_pos z] at f0 ⊢
        rw [itr_inr f0]
        rfl
      · rw [if_neg z] at f0 ⊢
        rw [itr_inl f0]
        exact ih (j + 1) (by omega) (by omega)
  exact key (W - 1) 1 (by omega) (Nat.le_refl _)
/-! letting go -/
theorem norm_fin {w : Nat} {v : Int32} (hw : w < 8) (h : NormS SC) : NormS (finS SC w v) := by
  obtain ⟨n0, n1, n2, n3, n4, n5, n6, n7⟩ := h
  exact ⟨n0.up hw v, n1.up hw 0, n2.up hw _, n3.up hw _, n4.up hw 0, n5, n6, n7⟩
theorem scene_fin (hP : PlanOK PL W ln) (hO : SceneOK W ln SC) {w k : Nat} {κ : Int32} (hw : w < W) : SceneOK W ln (finS SC w (nextP κ k (ln w))) := by
  have hln := (hP.2.2.1 w hw).2.1
  refine ⟨fun x hx => ?_, hO.2⟩
  generalize hv : nextP κ k (ln w) = v
  show upd (Sc_place SC) w v x = -1 ∨ ∃ k, k < ln x ∧ upd (Sc_place SC) w v x = nI k
  by_cases ex : x = w
  · subst ex
    rw [show upd (Sc_place SC) x v x = v from if_pos rfl, ← hv]
    unfold nextP
    split
    · exact Or.inr ⟨0, by omega, rfl⟩
    · split
      · exact Or.inl rfl
      · split
        · exact Or.inr ⟨k + 1, by assumption, rfl⟩
        · exact Or.inl rfl
  · rw [show upd (Sc_place SC) w v x = Sc_place SC x from if_neg ex]
    exact hO.1 x hx
theorem hold_ok (hO : SceneOK W ln SC) {w x : Nat} (hw : w < W) : SceneOK W ln (sSc_holders SC (upd (Sc_holders SC) x (nI w))) := ⟨hO.1, fun y hy => by
  show upd (Sc_holders SC) x (nI w) y = -1 ∨ ∃ w', w' < W ∧ upd (Sc_holders SC) x (nI w) y = nI w'
  by_cases ey : y = x
  · exact Or.inr ⟨w, hw, by rw [ey]; exact if_pos rfl⟩
  · rw [show upd (Sc_holders SC) x (nI w) y = Sc_holders SC y from if_neg ey]
    exact hO.2.1 y hy, hO.2.2⟩
theorem norm_hold {w x : Nat} (hx : x < 6) (h : NormS SC) : NormS (sSc_holders SC (upd (Sc_holders SC) x (nI w))) := by
  obtain ⟨n0, n1, n2, n3, n4, n5, n6, n7⟩ := h
  exact ⟨n0, n1, n2, n3, n4, n5.up hx _, n6, n7⟩
theorem c_letGo (hP : PlanOK PL W ln) (hO : SceneOK W ln SC) {w k : Nat} (hw : w < W) (hk : k < ln w) (e : Sc_place SC w = nI k) : FX3_letGo SC PL (nI w) = some (lgS PL ln SC w) ∧ SceneOK W ln (lgS PL ln SC w) ∧ (NormS SC → NormS (lgS PL ln SC w)) := by
  have h8 := hP.2.1
  have h12 := (hP.2.2.1 w hw).2.2
  have ep := pl_eq e (show k < 2 ^ 31 by omega)
  unfold FX3_letGo lgS kdN nuN
  simp only [nm]
  rw [ix_nI (by omega) (by decide), nI_clamp (show w < 2 ^ 31 by omega), e, c_kind hP hw hk, c_number hP hw hk, ep]
  simp only [Option.bind_some]
  by_cases k1 : Pl_kinds PL (12 * w + k) = nI 1
  · obtain ⟨x, hx, ex⟩ := num_lock hP hw hk (Or.inl k1)
    rw [if_pos (show Pl_kinds PL (12 * w + k) = 1 from k1), if_pos k1, ix_nI (by omega) (by decide), ex, set_eq hx (by decide), nI_clamp (show x < 2 ^ 31 by omega)]
    simp only [Option.bind_some]
    rw [C_finish hP hw hk (SC := sSc_holders SC (upd (Sc_holders SC) x (nI w))) e]
    exact ⟨rfl, scene_fin hP (hold_ok hO hw) hw, fun hn => norm_fin (by omega) (norm_hold hx hn)⟩
  · rw [if_neg (show ¬ Pl_kinds PL (12 * w + k) = 1 from k1), if_neg k1, C_finish hP hw hk e]
    exact ⟨rfl, scene_fin hP hO hw, fun hn => norm_fin (by omega) hn⟩
theorem s_letsGo (h : Sim μ PL W ln SC MO β) {w k : Nat} (hw : w < W) (hk : k < ln w) (e : Sc_place SC w = nI k) : ∃ all', FX10_letsGo MO (nI w) = some (sMo_all MO all') ∧ Sim μ PL W ln (lgS PL ln SC w) (sMo_all MO all') β ∧ Chg β (Mo_all MO) all' := by
  have h8 := h.W8
  have hP := h.1
  have hb := h.2.2.2.2.1
  have hβ := h.2.2.2.2.2
  have h12 := (hP.2.2.1 w hw).2.2
  have ep := pl_eq e (show k < 2 ^ 31 by omega)
  unfold FX10_letsGo lgS kdN nuN
  simp only [nm]
  rw [s_sortNow h hw hk e, s_numberNow h hw hk e, ep]
  simp only [Option.bind_some]
  by_cases k1 : Pl_kinds PL (12 * w + k) = nI 1
  · obtain ⟨x, hx, ex⟩ := num_lock hP hw hk (Or.inl k1)
    rw [if_pos (show Pl_kinds PL (12 * w + k) = 1 from k1), if_pos k1, ex, hb, show nI β + 240 + nI x = nI β + nI 240 + nI x from rfl, M_ix (by omega), M_cl (by omega), nI_clamp (show x < 2 ^ 31 by omega)]
    have h1 := h.to (sg_holders h.2.2.2.1 hx (nI w)) (hold_ok h.2.1 hw) (Chg.up (by omega))
    obtain ⟨all', g1, g2, g3, g4⟩ := fin_sim h1 hw hk e
    rw [g1]
    exact ⟨all', rfl, h1.to g2 g4 g3, (Chg.up (by omega)).tr g3⟩
  · rw [if_neg (show ¬ Pl_kinds PL (12 * w + k) = 1 from k1), if_neg k1]
    obtain ⟨all', g1, g2, g3, g4⟩ := fin_sim h hw hk e
    rw [g1]
    exact ⟨all', rfl, h.to g2 g4 g3, g3⟩
end LETGO
/-! a state taken over -/
theorem copy_nz {n : Nat} {f g : Nat → Int32} (hn : n < 2 ^ 31) (hf : Nz n f) (hg : Nz n g) : FX9_copy n f n g = some f := by
  rw [copy_eq hn]
  congr 1
  funext k
  by_cases hk : k < n
  · rw [if_pos hk]
  · rw [if_neg hk, hf k (by omega), hg k (by omega)]
theorem take_eq {A B : ScT} (hA : NormS A) (hB : NormS B) : FX3_take A B = some B := by
  obtain ⟨a0, a1, a2, a3, a4, a5, a6, a7⟩ := hA
  obtain ⟨b0, b1, b2, b3, b4, b5, b6, b7⟩ := hB
  unfold FX3_take
  simp only [nm]
  refine bd_of (copy_nz (by decide) b0 a0) ?_
  refine bd_of (copy_nz (by decide) b1 a1) ?_
  refine bd_of (copy_nz (by decide) b2 a2) ?_
  refine bd_of (copy_nz (by decide) b3 a3) ?_
  refine bd_of (copy_nz (by decide) b4 a4) ?_
  refine bd_of (copy_nz (by decide) b5 a5) ?_
  refine bd_of (copy_nz (by decide) b6 a6) ?_
  refine bd_of (copy_nz (by decide) b7 a7) ?_
  rfl
def cpA (all : Nat → Int32) (a b n : Nat) : Nat → Int32 := fun j => if b ≤ j ∧ j < b + n then all (a + (j - b)) else all j
theorem M_copies {MO : MoT} {a b n : Nat} (ha : a + n ≤ 9519) (hb : b + n ≤ 9519) (ho : b ≤ a ∨ a + n ≤ b) : FX10_copies MO (nI a) (nI b) (nI n) = some (sMo_all MO (cpA (Mo_all MO) a b n)) := by
  have q : itr (FX10_copies_3 (nI a) (nI b) (nI n)) ((0 : Int32), MO) = some (sMo_all MO (cpA (Mo_all MO) a b n)) := by
    have h0 : cpA (Mo_all MO) a b 0 = Mo_all MO := by
      funext j
      exact if_neg (by omega)
    have := itr_chain (f := FX10_copies_3 (nI a) (nI b) (nI n)) (e := sMo_all MO (cpA (Mo_all MO) a b n)) (fun i => (nI i, sMo_all MO (cpA (Mo_all MO) a b i))) n (fun i hi => by
      unfold FX10_copies_3
      simp only [nm]
      rw [if_neg (nI_ge hi (by omega)), nI_add, nI_add, ix_nI (by omega) (by decide), ix_nI (by omega) (by decide), nI_clamp (by omega), nI_clamp (by omega), nI_1]
      have e1 : cpA (Mo_all MO) a b i (a + i) = Mo_all MO (a + i) := if_neg (by omega)
      have e2 : upd (cpA (Mo_all MO) a b i) (b + i) (Mo_all MO (a + i)) = cpA (Mo_all MO) a b (i + 1) := by
        funext j
        show (if j = b + i then _ else (if b ≤ j ∧ j < b + i then _ else _)) = if b ≤ j ∧ j < b + (i + 1) then _ else _
        by_cases e : j = b + i
        · subst e
          rw [if_pos rfl, if_pos (by omega)]
          congr 1
          omega
        · rw [if_neg e]
          by_cases c : b ≤ j ∧ j < b + i
          · rw [if_pos c, if_pos (by omega)]
          · rw [if_neg c, if_neg (by omega)]
      show some (Sum.inl (nI (i + 1), sMo_all MO (upd (cpA (Mo_all MO) a b i) (b + i) (cpA (Mo_all MO) a b i (a + i))))) = _
      rw [e1, e2]) (by
      unfold FX10_copies_3
      rw [if_pos (nI_le (Nat.le_refl _) (by omega))])
    rw [show (nI 0, sMo_all MO (cpA (Mo_all MO) a b 0)) = ((0 : Int32), MO) from by rw [h0]; rfl] at this
    exact this
  unfold FX10_copies
  rw [q]
  rfl
section ASIDE
variable {μ : Prop} {PL : PlT} {W : Nat} {ln : Nat → Nat} {SC : ScT} {MO : MoT} {β γ : Nat} {all all' : Nat → Int32}
theorem SegP.mv (h : SegP PL W ln all β) (hP : PlanOK PL W ln) (hc : ∀ i, i < 207 → all' (γ + i) = all (β + i)) : SegP PL W ln all' γ := by
  have h8 := hP.2.1
  have hc' : ∀ i x y, x = γ + i → y = β + i → i < 207 → all' x = all y := by
    rintro i _ _ rfl rfl hi
    exact hc i hi
  obtain ⟨p0, p1, p2, p3⟩ := h
  refine ⟨(hc' 0 _ _ rfl rfl (by omega)).trans p0, fun p hp => (hc' (3 + p) _ _ (by omega) (by omega) (by omega)).trans (p1 p hp), fun w hw => (hc' (7 + w) _ _ (by omega) (by omega) (by omega)).trans (p2 w hw), fun w hw k hk => ?_⟩
  have h12 := (hP.2.2.1 w hw).2.2
  exact ⟨(hc' (15 + 12 * w + k) _ _ (by omega) (by omega) (by omega)).trans (p3 w hw k hk).1, (hc' (111 + 12 * w + k) _ _ (by omega) (by omega) (by omega)).trans (p3 w hw k hk).2⟩
theorem SegS.mv (h : SegS μ SC all β) (hc : ∀ i, i < 322 → all' (γ + i) = all (β + i)) : SegS μ SC all' γ := by
  have hc' : ∀ i x y, x = γ + i → y = β + i → i < 322 → all' x = all y := by
    rintro i _ _ rfl rfl hi
    exact hc i hi
  obtain ⟨h0, h1, h2, h3, h4, h5, h6, h7, h8, h9, h10, hn⟩ := h
  refine ⟨(hc' 1 _ _ (by omega) (by omega) (by omega)).trans h0, (hc' 2 _ _ (by omega) (by omega) (by omega)).trans h1, (hc' 207 _ _ (by omega) (by omega) (by omega)).trans h2, fun w hw => (hc' (208 + w) _ _ (by omega) (by omega) (by omega)).trans (h3 w hw), fun w hw => (hc' (216 + w) _ _ (by omega) (by omega) (by omega)).trans (h4 w hw), fun w hw => (hc' (224 + w) _ _ (by omega) (by omega) (by omega)).trans (h5 w hw), fun w hw => (hc' (232 + w) _ _ (by omega) (by omega) (by omega)).trans (h6 w hw), fun w hw => (hc' (240 + w) _ _ (by omega) (by omega) (by omega)).trans (h7 w hw), fun w hw => (hc' (246 + w) _ _ (by omega) (by omega) (by omega)).trans (h8 w hw), fun w hw => (hc' (250 + w) _ _ (by omega) (by omega) (by omega)).trans (h9 w hw), fun hm w hw => (hc' (314 + w) _ _ (by omega) (by omega) (by omega)).trans (h10 hm w hw), hn⟩
/-- the same state, elsewhere -/
theorem Sim.mv {MO' : MoT} (h : Sim μ PL W ln SC MO β) (hb : Mo_b MO' = nI γ) (hγ : γ + 474 ≤ 9519) (hc : ∀ i, i < 322 → Mo_all MO' (γ + i) = Mo_all MO (β + i)) : Sim μ PL W ln SC MO' γ := ⟨h.1, h.2.1, h.2.2.1.mv h.1 (fun i hi => hc i (by omega)), h.2.2.2.1.mv hc, hb, hγ⟩
end ASIDE
