/-! ===== the reference's search for what a worker can come to ===== -/
theorem bft {p : Prop} (h : false = true) : p := absurd h (by decide)
theorem bI0 {α : Type} (b : Bool) (x y : α) : (if bI b = 0 then x else y) = bif b then y else x := by
  cases b
  · exact if_pos bI_f
  · exact if_neg bI_t
def enB (SC : ScT) (w : Nat) : Bool := decide (Sc_place SC w = -1)
def pl (SC : ScT) (w : Nat) : Nat := (Sc_place SC w).toNatClampNeg
def kdN (PL : PlT) (SC : ScT) (w : Nat) : Int32 := Pl_kinds PL (12 * w + pl SC w)
def nuN (PL : PlT) (SC : ScT) (w : Nat) : Int32 := Pl_numbers PL (12 * w + pl SC w)
def heB (PL : PlT) (SC : ScT) (w : Nat) : Bool := !enB SC w && !canB PL SC w (pl SC w)
def cnB (PL : PlT) (ln : Nat → Nat) (SC : ScT) (w : Nat) (κ n : Int32) : Bool := !enB SC w && rch (Pl_kinds PL) (Pl_numbers PL) w κ n (ln w - pl SC w) (pl SC w)
theorem en_t {SC : ScT} {w : Nat} (h : Sc_place SC w = -1) : enB SC w = true := decide_eq_true h
theorem en_f {SC : ScT} {w k : Nat} (h : Sc_place SC w = nI k) (hk : k < 2 ^ 31) : enB SC w = false := decide_eq_false (by rw [h]; exact nI_m1 k hk)
theorem pl_eq {SC : ScT} {w k : Nat} (h : Sc_place SC w = nI k) (hk : k < 2 ^ 31) : pl SC w = k := by
  unfold pl
  rw [h, nI_clamp hk]
noncomputable def canK (MO : MoT) (v1 v2 v3 : Int32) (ex : Int32 ⊕ (Unit ⊕ Int32)) : Option Bool :=
  Sum.elim (fun uL4 =>
      (itr (FX10_can_111 MO v1 v2 v3 uL4) (0 : Int32)).bind fun exL22 =>
      Sum.elim (fun _ =>
        some false
      )
      (fun _ =>
        some true
      ) exL22
    ) (
      Sum.elim (fun _ =>
        some true
      )
      (fun uL4 =>
        (itr (FX10_can_111_L32 MO v1 v2 v3 uL4) (0 : Int32)).bind fun exL32 =>
        Sum.elim (fun _ =>
          some false
        )
        (fun _ =>
          some true
        ) exL32
      )
    ) ex
section CAN
variable {μ : Prop} {PL : PlT} {W : Nat} {ln : Nat → Nat} {SC : ScT} {MO : MoT} {β : Nat}
theorem s_sort (h : Sim μ PL W ln SC MO β) {w k : Nat} (hw : w < W) (hk : k < ln w) : FX10_sort MO (nI w) (nI k) = some (Pl_kinds PL (12 * w + k)) := by
  obtain ⟨hP, hS, hp, hs, hb, hβ⟩ := h
  have h8 := hP.2.1
  have h12 := (hP.2.2.1 w hw).2.2
  rw [M_sort hb (by omega), (hp.2.2.2 w hw k hk).1]
theorem s_number (h : Sim μ PL W ln SC MO β) {w k : Nat} (hw : w < W) (hk : k < ln w) : FX10_number MO (nI w) (nI k) = some (Pl_numbers PL (12 * w + k)) := by
  obtain ⟨hP, hS, hp, hs, hb, hβ⟩ := h
  have h8 := hP.2.1
  have h12 := (hP.2.2.1 w hw).2.2
  rw [M_number hb (by omega), (hp.2.2.2 w hw k hk).2]
theorem hit_t {ki nu : Nat → Int32} {w k : Nat} {κ n : Int32} (a : ki (12 * w + k) = κ) (c : nu (12 * w + k) = n) : hit ki nu w κ n k = true := decide_eq_true ⟨a, c⟩
theorem hit_f1 {ki nu : Nat → Int32} {w k : Nat} {κ n : Int32} (a : ¬ ki (12 * w + k) = κ) : hit ki nu w κ n k = false := decide_eq_false (fun z => a z.1)
theorem hit_f2 {ki nu : Nat → Int32} {w k : Nat} {κ n : Int32} (a : ¬ nu (12 * w + k) = n) : hit ki nu w κ n k = false := decide_eq_false (fun z => a z.2)
theorem can_scan (h : Sim μ PL W ln SC MO β) {w k0 : Nat} {κ n : Int32} (hw : w < W) (hk : k0 < ln w) (e : Sc_place SC w = nI k0) : ∀ d j, j + d = k0 → (∀ i, i < j → hit (Pl_kinds PL) (Pl_numbers PL) w κ n i = false) → itr (FX10_can_111 MO (nI w) κ n 1) (nI j) = some (if anyB (hit (Pl_kinds PL) (Pl_numbers PL) w κ n) k0 then Sum.inr () else Sum.inl ())
  | 0, j, hd, hn => by
    have h12 := (h.1.2.2.1 w hw).2.2
    have hj : j = k0 := by omega
    subst hj
    rw [anyB_no hn, if_neg (by decide)]
    apply itr_inr
    unfold FX10_can_111
    rw [s_place h hw, e]
    simp only [Option.bind_some]
    rw [if_pos (nI_le (Nat.le_refl _) (by omega))]
  | d + 1, j, hd, hn => by
    have h12 := (h.1.2.2.1 w hw).2.2
    have f0 : FX10_can_111 MO (nI w) κ n 1 (nI j) = if hit (Pl_kinds PL) (Pl_numbers PL) w κ n j = true then some (Sum.inr (Sum.inr ())) else some (Sum.inl (nI (j + 1))) := by
      unfold FX10_can_111
      rw [s_place h hw, e]
      simp only [Option.bind_some, nm]
      rw [if_neg (nI_ge (by omega) (by omega)), if_neg (show ¬ (1 : Int32) = 0 by decide), s_sort h hw (by omega), s_number h hw (by omega)]
      simp only [Option.bind_some]
      by_cases a : Pl_kinds PL (12 * w + j) = κ
      · rw [if_pos a]
        by_cases c : Pl_numbers PL (12 * w + j) = n
        · rw [if_pos c, hit_t a c, if_pos rfl]
        · rw [if_neg c, hit_f2 c, if_neg (by decide), nI_1]
      · rw [if_neg a, hit_f1 a, if_neg (by decide), nI_1]
    cases c : hit (Pl_kinds PL) (Pl_numbers PL) w κ n j
    · rw [c, if_neg (by decide)] at f0
      rw [itr_inl f0]
      exact can_scan h hw hk e d (j + 1) (by omega) (fun i hi => by
        by_cases z : i = j
        · rw [z]
          exact c
        · exact hn i (by omega))
    · rw [c, if_pos rfl] at f0
      rw [itr_inr f0, anyB_yes (show j < k0 by omega) c, if_pos rfl]
theorem can_none (h : Sim μ PL W ln SC MO β) {w : Nat} {κ n : Int32} (hw : w < W) : itr (FX10_can_111 MO (nI w) κ n 0) (0 : Int32) = some (Sum.inl ()) := by
  apply itr_inr
  unfold FX10_can_111
  rw [s_place h hw]
  simp only [Option.bind_some]
  split
  · rfl
  · exact if_pos trivial
theorem can_none2 (h : Sim μ PL W ln SC MO β) {w : Nat} {κ n : Int32} (hw : w < W) : itr (FX10_can_111_L32 MO (nI w) κ n 0) (0 : Int32) = some (Sum.inl ()) := by
  apply itr_inr
  unfold FX10_can_111_L32
  rw [s_place h hw]
  simp only [Option.bind_some]
  split
  · rfl
  · exact if_pos trivial
theorem can_main (h : Sim μ PL W ln SC MO β) {w k0 i : Nat} {κ n : Int32} (hi : Want κ n i) (hw : w < W) (hk : k0 < ln w) (e : Sc_place SC w = nI k0) : ∀ d k, k + d = ln w → k0 ≤ k → (∀ j, k0 ≤ j → j < k → hit (Pl_kinds PL) (Pl_numbers PL) w κ n j = false) → (itr (FX10_can_20 MO (nI w) κ n) ((0 : Int32), nI k)).bind (canK MO (nI w) κ n) = some (rch (Pl_kinds PL) (Pl_numbers PL) w κ n d k)
  | 0, k, hd, h0, hn => by
    have h8 := h.W8
    have hb := h.2.2.2.2.1
    have hβ := h.2.2.2.2.2
    obtain ⟨hl, h1, h12⟩ := h.1.2.2.1 w hw
    have f0 : FX10_can_20 MO (nI w) κ n ((0 : Int32), nI k) = some (Sum.inr (Sum.inl 0)) := by
      unfold FX10_can_20
      simp only [nm]
      rw [hb, show nI β + 7 + nI w = nI β + nI 7 + nI w from rfl, M_ix (by omega), M_cl (by omega), h.2.2.1.2.2.1 w (by omega), hl, if_pos (nI_le (by omega) (by omega))]
    rw [itr_inr f0]
    show (itr (FX10_can_111 MO (nI w) κ n 0) (0 : Int32)).bind _ = _
    rw [can_none h hw]
    rfl
  | d + 1, k, hd, h0, hn => by
    have h8 := h.W8
    have hb := h.2.2.2.2.1
    have hβ := h.2.2.2.2.2
    obtain ⟨hl, h1, h12⟩ := h.1.2.2.1 w hw
    have hkl : k < ln w := by omega
    have f0 : FX10_can_20 MO (nI w) κ n ((0 : Int32), nI k) = if hit (Pl_kinds PL) (Pl_numbers PL) w κ n k = true then some (Sum.inr (Sum.inr (Sum.inl ()))) else if Pl_kinds PL (12 * w + k) = 8 then some (Sum.inr (Sum.inl 1)) else if Pl_kinds PL (12 * w + k) = 9 then some (Sum.inr (Sum.inr (Sum.inr 0))) else some (Sum.inl (0, nI (k + 1))) := by
      unfold FX10_can_20
      simp only [nm]
      rw [hb, show nI β + 7 + nI w = nI β + nI 7 + nI w from rfl, M_ix (by omega), M_cl (by omega), h.2.2.1.2.2.1 w (by omega), hl, if_neg (nI_ge (by omega) (by omega)), s_sort h hw hkl, s_number h hw hkl]
      simp only [Option.bind_some]
      rw [nI_1]
      by_cases a : Pl_kinds PL (12 * w + k) = κ
      · rw [if_pos a]
        by_cases c : Pl_numbers PL (12 * w + k) = n
        · rw [if_pos c, hit_t a c, if_pos rfl]
        · rw [if_neg c, hit_f2 c, if_neg (show ¬ (false = true) by decide)]
      · rw [if_neg a, hit_f1 a, if_neg (show ¬ (false = true) by decide)]
    unfold rch
    cases c : hit (Pl_kinds PL) (Pl_numbers PL) w κ n k
    · rw [c, if_neg (show ¬ (false = true) by decide)] at f0
      by_cases k8 : Pl_kinds PL (12 * w + k) = 8
      · rw [if_pos k8] at f0
        rw [itr_inr f0, if_neg (show ¬ Pl_kinds PL (12 * w + k) = nI 9 from by rw [k8]; decide), if_pos (show Pl_kinds PL (12 * w + k) = nI 8 from k8)]
        show (itr (FX10_can_111 MO (nI w) κ n 1) (nI 0)).bind _ = _
        rw [can_scan h hw hk e k0 0 (by omega) (fun i hi => by omega)]
        have em := anyB_more (f := hit (Pl_kinds PL) (Pl_numbers PL) w κ n) (k := k0) (k - k0) (fun j h1 h2 => hn j h1 (by omega))
        rw [show k0 + (k - k0) = k by omega] at em
        rw [em]
        cases anyB (hit (Pl_kinds PL) (Pl_numbers PL) w κ n) k0 <;> rfl
      · rw [if_neg k8] at f0
        by_cases k9 : Pl_kinds PL (12 * w + k) = 9
        · rw [if_pos k9] at f0
          rw [itr_inr f0, if_pos (show Pl_kinds PL (12 * w + k) = nI 9 from k9)]
          show (itr (FX10_can_111_L32 MO (nI w) κ n 0) (0 : Int32)).bind _ = _
          rw [can_none2 h hw]
          rfl
        · rw [if_neg k9] at f0
          rw [itr_inl f0, if_neg (show ¬ Pl_kinds PL (12 * w + k) = nI 9 from k9), if_neg (show ¬ Pl_kinds PL (12 * w + k) = nI 8 from k8), Bool.false_or]
          exact can_main h hi hw hk e d (k + 1) (by omega) (by omega) (fun j h1 h2 => by
            by_cases z : j = k
            · rw [z]
              exact c
            · exact hn j h1 (by omega))
    · rw [c, if_pos rfl] at f0
      have hκ : Pl_kinds PL (12 * w + k) = κ := (of_decide_eq_true c).1
      rw [itr_inr f0, if_neg (show ¬ Pl_kinds PL (12 * w + k) = nI 9 from by rw [hκ]; exact hi.n8.2), if_neg (show ¬ Pl_kinds PL (12 * w + k) = nI 8 from by rw [hκ]; exact hi.n8.1), Bool.true_or]
      rfl
theorem s_can (h : Sim μ PL W ln SC MO β) {w i : Nat} {κ n : Int32} (hi : Want κ n i) (hw : w < W) : FX10_can MO (nI w) κ n = some (cnB PL ln SC w κ n) := by
  unfold FX10_can cnB
  rw [s_ended h hw]
  simp only [Option.bind_some]
  rcases h.alt hw with e | ⟨k, hk, e⟩
  · rw [decide_eq_true e, if_neg bI_t, en_t e]
    rfl
  · have h12 := (h.1.2.2.1 w hw).2.2
    have ne : ¬ Sc_place SC w = -1 := by rw [e]; exact nI_m1 k (by omega)
    rw [decide_eq_false ne, if_pos bI_f, en_f e (by omega), s_place h hw, e, pl_eq e (by omega)]
    exact can_main h hi hw hk e (ln w - k) k (by omega) (Nat.le_refl _) (fun j h1 h2 => by omega)
/-! the class: the same out of its masks -/
theorem c_can (hP : PlanOK PL W ln) (hR : ReachOK PL W ln) (hS : SceneOK W ln SC) {w : Nat} (hw : w < W) : ∃ m, FX1_reachAt PL (nI w) (Sc_place SC w) = some m ∧ ∀ κ n i, Want κ n i → bt m i = cnB PL ln SC w κ n := by
  have h8 := hP.2.1
  obtain ⟨hl, h1, h12⟩ := hP.2.2.1 w hw
  unfold FX1_reachAt cnB
  rcases hS.1 w hw with e | ⟨k, hk, e⟩
  · rw [e, cellOf_neg hP.1 h8 hw]
    refine ⟨0, by rw [Option.bind_some, if_pos rfl], fun κ n i hi => ?_⟩
    rw [b_0, en_t e]
    rfl
  · rw [e, cellOf_eq hP.1 h8 hw hl h12 hk, pl_eq e (by omega), en_f e (by omega)]
    refine ⟨Pl_reach PL (12 * w + k), ?_, fun κ n i hi => ?_⟩
    · rw [Option.bind_some, if_neg (nI_m1 _ (by omega)), at_eq (by omega) (by decide)]
      rfl
    · rw [hR w hw k hk κ n i hi]
      rfl
end CAN
