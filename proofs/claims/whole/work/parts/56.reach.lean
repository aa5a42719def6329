/-! ===== what a worker can come to: the class's masks and the reference's search ===== -/
def anyB (f : Nat → Bool) : Nat → Bool
  | 0 => false
  | n + 1 => anyB f n || f n
theorem anyB_no {f : Nat → Bool} {n : Nat} (h : ∀ i, i < n → f i = false) : anyB f n = false := by
  induction n with
  | zero => rfl
  | succ n ih =>
    show (anyB f n || f n) = false
    rw [ih (fun i hi => h i (by omega)), h n (by omega)]
    rfl
theorem anyB_yes {f : Nat → Bool} {n i : Nat} (hi : i < n) (h : f i = true) : anyB f n = true := by
  induction n with
  | zero => omega
  | succ n ih =>
    show (anyB f n || f n) = true
    by_cases e : i = n
    · subst e
      rw [h, Bool.or_true]
    · rw [ih (by omega)]
      rfl
theorem anyB_congr {f g : Nat → Bool} {n : Nat} (h : ∀ i, i < n → f i = g i) : anyB f n = anyB g n := by
  induction n with
  | zero => rfl
  | succ n ih =>
    show (anyB f n || f n) = (anyB g n || g n)
    rw [ih (fun i hi => h i (by omega)), h n (by omega)]
theorem anyB_more {f : Nat → Bool} {k : Nat} : ∀ d, (∀ i, k ≤ i → i < k + d → f i = false) → anyB f (k + d) = anyB f k
  | 0, _ => rfl
  | d + 1, h => by
    show (anyB f (k + d) || f (k + d)) = anyB f k
    rw [anyB_more d (fun i h1 h2 => h i h1 (by omega)), h (k + d) (by omega) (by omega), Bool.or_false]
def hit (ki nu : Nat → Int32) (w : Nat) (κ n : Int32) (k : Nat) : Bool := decide (ki (12 * w + k) = κ ∧ nu (12 * w + k) = n)
def rch (ki nu : Nat → Int32) (w : Nat) (κ n : Int32) : Nat → Nat → Bool
  | 0, _ => false
  | d + 1, k => if ki (12 * w + k) = nI 9 then false else if ki (12 * w + k) = nI 8 then anyB (hit ki nu w κ n) k else (hit ki nu w κ n k || rch ki nu w κ n d (k + 1))
/-- a step that somebody may wait for, and its bit -/
def Want (κ n : Int32) (i : Nat) : Prop := (κ = nI 4 ∧ ∃ x, x < 4 ∧ n = nI x ∧ i = x) ∨ (κ = nI 3 ∧ ∃ x, x < 4 ∧ n = nI x ∧ i = 4 + x) ∨ (κ = nI 5 ∧ ∃ x, x < 8 ∧ n = nI x ∧ i = 8 + x)
theorem Want.lt {κ n : Int32} {i : Nat} (h : Want κ n i) : i < 16 := by
  rcases h with ⟨-, x, h1, -, h3⟩ | ⟨-, x, h1, -, h3⟩ | ⟨-, x, h1, -, h3⟩ <;> omega
theorem Want.n8 {κ n : Int32} {i : Nat} (h : Want κ n i) : κ ≠ nI 8 ∧ κ ≠ nI 9 := by
  rcases h with ⟨rfl, -⟩ | ⟨rfl, -⟩ | ⟨rfl, -⟩ <;> exact ⟨by decide, by decide⟩
def ReachOK (PL : PlT) (W : Nat) (ln : Nat → Nat) : Prop := ∀ w, w < W → ∀ k, k < ln w → ∀ κ n i, Want κ n i → bt (Pl_reach PL (12 * w + k)) i = rch (Pl_kinds PL) (Pl_numbers PL) w κ n (ln w - k) k
theorem bo_bits : ∀ x, x < 4 → ∀ i, i < 16 → bt ((1 : Int32) <<< (nI x &&& 31)) i = decide (i = x) ∧ bt ((1 : Int32) <<< ((4 + nI x) &&& 31)) i = decide (i = 4 + x) := by decide +kernel
theorem bo_send : ∀ x, x < 8 → ∀ i, i < 16 → bt ((1 : Int32) <<< ((8 + nI x) &&& 31)) i = decide (i = 8 + x) := by decide +kernel
section REACH
variable {PL : PlT} {W : Nat} {ln : Nat → Nat}
theorem bitOf_ok (hP : PlanOK PL W ln) {w k : Nat} (hw : w < W) (hk : k < ln w) : ∃ m, FX1_bitOf (Pl_kinds PL (12 * w + k)) (Pl_numbers PL (12 * w + k)) = some m ∧ ∀ κ n i, Want κ n i → bt m i = hit (Pl_kinds PL) (Pl_numbers PL) w κ n k := by
  have h8 := hP.2.1
  unfold FX1_bitOf hit
  by_cases k3 : Pl_kinds PL (12 * w + k) = 3
  · obtain ⟨x, hx, ex⟩ := num_pipe hP hw hk (Or.inl k3)
    rw [if_pos k3]
    refine ⟨_, rfl, fun κ n i hi => ?_⟩
    rw [ex, (bo_bits x hx i hi.lt).2, k3]
    rcases hi with ⟨rfl, y, h1, rfl, rfl⟩ | ⟨rfl, y, h1, rfl, rfl⟩ | ⟨rfl, y, h1, rfl, rfl⟩
    · rw [decide_eq_false (by omega), decide_eq_false (fun z => absurd z.1 (by decide))]
    · by_cases e : x = y
      · rw [decide_eq_true (by omega), decide_eq_true ⟨rfl, by rw [e]⟩]
      · rw [decide_eq_false (by omega), decide_eq_false (fun z => e (nI_inj (by omega) (by omega) z.2))]
    · rw [decide_eq_false (by omega), decide_eq_false (fun z => absurd z.1 (by decide))]
  · rw [if_neg k3]
    by_cases k4 : Pl_kinds PL (12 * w + k) = 4
    · obtain ⟨x, hx, ex⟩ := num_pipe hP hw hk (Or.inr k4)
      rw [if_pos k4]
      refine ⟨_, rfl, fun κ n i hi => ?_⟩
      rw [ex, (bo_bits x hx i hi.lt).1, k4]
      rcases hi with ⟨rfl, y, h1, rfl, rfl⟩ | ⟨rfl, y, h1, rfl, rfl⟩ | ⟨rfl, y, h1, rfl, rfl⟩
      · by_cases e : x = i
        · rw [decide_eq_true (by omega), decide_eq_true ⟨rfl, by rw [e]⟩]
        · rw [decide_eq_false (by omega), decide_eq_false (fun z => e (nI_inj (by omega) (by omega) z.2))]
      · rw [decide_eq_false (by omega), decide_eq_false (fun z => absurd z.1 (by decide))]
      · rw [decide_eq_false (by omega), decide_eq_false (fun z => absurd z.1 (by decide))]
    · rw [if_neg k4]
      by_cases k5 : Pl_kinds PL (12 * w + k) = 5
      · obtain ⟨x, hx, hne, ex⟩ := num_mate hP hw hk (Or.inl k5)
        rw [if_pos k5]
        refine ⟨_, rfl, fun κ n i hi => ?_⟩
        rw [ex, bo_send x (by omega) i hi.lt, k5]
        rcases hi with ⟨rfl, y, h1, rfl, rfl⟩ | ⟨rfl, y, h1, rfl, rfl⟩ | ⟨rfl, y, h1, rfl, rfl⟩
        · rw [decide_eq_false (by omega), decide_eq_false (fun z => absurd z.1 (by decide))]
        · rw [decide_eq_false (by omega), decide_eq_false (fun z => absurd z.1 (by decide))]
        · by_cases e : x = y
          · rw [decide_eq_true (by omega), decide_eq_true ⟨rfl, by rw [e]⟩]
          · rw [decide_eq_false (by omega), decide_eq_false (fun z => e (nI_inj (by omega) (by omega) z.2))]
      · rw [if_neg k5]
        refine ⟨_, rfl, fun κ n i hi => ?_⟩
        rw [b_0]
        rcases hi with ⟨rfl, -⟩ | ⟨rfl, -⟩ | ⟨rfl, -⟩
        · rw [decide_eq_false (fun z => k4 z.1)]
        · rw [decide_eq_false (fun z => k3 z.1)]
        · rw [decide_eq_false (fun z => k5 z.1)]
theorem between_ok (hP : PlanOK PL W ln) {w a c : Nat} (hw : w < W) (hc : a + c ≤ ln w) : ∃ m, FX1_reachBetween PL (nI w) (nI a) (nI (a + c)) = some m ∧ ∀ κ n i, Want κ n i → bt m i = anyB (fun j => hit (Pl_kinds PL) (Pl_numbers PL) w κ n (a + j)) c := by
  have h12 := (hP.2.2.1 w hw).2.2
  obtain ⟨e, q1, q2⟩ := itr_inv (f := FX1_reachBetween_6 PL (nI w) (nI (a + c))) (Q := fun m => ∀ κ n i, Want κ n i → bt m i = anyB (fun j => hit (Pl_kinds PL) (Pl_numbers PL) w κ n (a + j)) c) (fun d s => ∃ m, s = (m, nI (a + d)) ∧ ∀ κ n i, Want κ n i → bt m i = anyB (fun j => hit (Pl_kinds PL) (Pl_numbers PL) w κ n (a + j)) d) c (by
    rintro d s hd ⟨m, rfl, hm⟩
    unfold FX1_reachBetween_6
    by_cases hdc : d < c
    · left
      refine ⟨hdc, ?_⟩
      rw [if_neg (nI_ge (by omega) (by omega)), c_kind hP hw (by omega), c_number hP hw (by omega)]
      simp only [Option.bind_some]
      obtain ⟨b, b1, b2⟩ := bitOf_ok hP hw (show a + d < ln w by omega)
      rw [b1]
      refine ⟨_, rfl, m ||| b, ?_, fun κ n i hi => ?_⟩
      · exact congrArg (Prod.mk (m ||| b)) (nI_1 (a + d))
      · rw [b_or, hm κ n i hi, b2 κ n i hi]
        rfl
    · right
      have : d = c := by omega
      subst this
      rw [if_pos (nI_le (Nat.le_refl _) (by omega))]
      exact ⟨_, rfl, hm⟩) (s := (nI 0, nI a)) ⟨0, rfl, fun κ n i hi => b_0 i⟩
  refine ⟨e, ?_, q2⟩
  unfold FX1_reachBetween
  rw [show itr (FX1_reachBetween_6 PL (nI w) (nI (a + c))) ((0 : Int32), nI a) = some e from q1]
  rfl
theorem from_ok (hP : PlanOK PL W ln) {w : Nat} (hw : w < W) : ∀ d k bits, k + d = ln w → ∃ m, (itr (FX1_reachFrom_5 PL (nI w)) (bits, nI k)).bind (fun exL1 => Sum.elim (fun uL1 => some uL1) (Sum.elim (fun uL1 => some uL1) (fun uL1 => (FX1_reachBetween PL (nI w) (0 : Int32) uL1.2).bind fun r10 => some (uL1.1 ||| r10))) exL1) = some m ∧ ∀ κ n i, Want κ n i → bt m i = (bt bits i || rch (Pl_kinds PL) (Pl_numbers PL) w κ n d k)
  | 0, k, bits, hd => by
    have h8 := hP.2.1
    obtain ⟨hl, h1, h12⟩ := hP.2.2.1 w hw
    have f1 : FX1_reachFrom_5 PL (nI w) (bits, nI k) = some (.inr (.inl bits)) := by
      unfold FX1_reachFrom_5
      rw [ix_nI (by omega) (by decide), nI_clamp (by omega), hl, if_pos (nI_le (by omega) (by omega))]
    rw [itr_inr f1]
    exact ⟨_, rfl, fun κ n i hi => (Bool.or_false _).symm⟩
  | d + 1, k, bits, hd => by
    have h8 := hP.2.1
    obtain ⟨hl, h1, h12⟩ := hP.2.2.1 w hw
    have hk : k < ln w := by omega
    by_cases k9 : Pl_kinds PL (12 * w + k) = 9
    · have f1 : FX1_reachFrom_5 PL (nI w) (bits, nI k) = some (.inr (.inr (.inl bits))) := by
        unfold FX1_reachFrom_5
        rw [ix_nI (by omega) (by decide), nI_clamp (by omega), hl, if_neg (nI_ge (by omega) (by omega)), c_kind hP hw hk]
        simp only [Option.bind_some]
        rw [if_pos k9]
      rw [itr_inr f1]
      refine ⟨_, rfl, fun κ n i hi => ?_⟩
      unfold rch
      rw [if_pos (show Pl_kinds PL (12 * w + k) = nI 9 from k9), Bool.or_false]
    · by_cases k8 : Pl_kinds PL (12 * w + k) = 8
      · have f1 : FX1_reachFrom_5 PL (nI w) (bits, nI k) = some (.inr (.inr (.inr (bits, nI k)))) := by
          unfold FX1_reachFrom_5
          rw [ix_nI (by omega) (by decide), nI_clamp (by omega), hl, if_neg (nI_ge (by omega) (by omega)), c_kind hP hw hk]
          simp only [Option.bind_some]
          rw [if_neg k9, if_pos k8]
        rw [itr_inr f1]
        obtain ⟨m, m1, m2⟩ := between_ok hP (a := 0) (c := k) hw (by omega)
        rw [Nat.zero_add] at m1
        refine ⟨bits ||| m, ?_, fun κ n i hi => ?_⟩
        · show (FX1_reachBetween PL (nI w) (nI 0) (nI k)).bind _ = _
          rw [m1]
          rfl
        · unfold rch
          rw [if_neg (show ¬ Pl_kinds PL (12 * w + k) = nI 9 from k9), if_pos (show Pl_kinds PL (12 * w + k) = nI 8 from k8), b_or, m2 κ n i hi]
          congr 1
          exact anyB_congr (fun j _ => by rw [Nat.zero_add])
      · obtain ⟨m, m1, m2⟩ := between_ok hP (a := k) (c := 1) hw (by omega)
        have f1 : FX1_reachFrom_5 PL (nI w) (bits, nI k) = some (.inl (bits ||| m, nI (k + 1))) := by
          unfold FX1_reachFrom_5
          rw [ix_nI (by omega) (by decide), nI_clamp (by omega), hl, if_neg (nI_ge (by omega) (by omega)), c_kind hP hw hk]
          simp only [Option.bind_some]
          rw [if_neg k9, if_neg k8, nI_1, m1]
          rfl
        rw [itr_inl f1]
        obtain ⟨m', g1, g2⟩ := from_ok hP hw d (k + 1) (bits ||| m) (by omega)
        refine ⟨m', g1, fun κ n i hi => ?_⟩
        have er : rch (Pl_kinds PL) (Pl_numbers PL) w κ n (d + 1) k = (hit (Pl_kinds PL) (Pl_numbers PL) w κ n k || rch (Pl_kinds PL) (Pl_numbers PL) w κ n d (k + 1)) := (if_neg (show ¬ Pl_kinds PL (12 * w + k) = nI 9 from k9)).trans (if_neg (show ¬ Pl_kinds PL (12 * w + k) = nI 8 from k8))
        rw [g2 κ n i hi, b_or, m2 κ n i hi, er]
        show ((bt bits i || (false || hit (Pl_kinds PL) (Pl_numbers PL) w κ n (k + 0))) || _) = _
        rw [Bool.false_or, Bool.or_assoc]
        rfl
theorem reachFrom_ok (hP : PlanOK PL W ln) {w k : Nat} (hw : w < W) (hk : k < ln w) : ∃ m, FX1_reachFrom PL (nI w) (nI k) = some m ∧ ∀ κ n i, Want κ n i → bt m i = rch (Pl_kinds PL) (Pl_numbers PL) w κ n (ln w - k) k := by
  obtain ⟨m, m1, m2⟩ := from_ok hP hw (ln w - k) k 0 (by omega)
  refine ⟨m, m1, fun κ n i hi => ?_⟩
  rw [m2 κ n i hi, b_0]
  rfl
end REACH
