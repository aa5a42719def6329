/-! ===== sets of workers as bits (the family bt is pasted out of the kit's laws/BITS) ===== -/
def bt (x : Int32) (i : Nat) : Bool := x.toBitVec.getLsbD i
theorem b_ext {x y : Int32} (h : ∀ i, i < 32 → bt x i = bt y i) : x = y := Int32.toBitVec_inj.mp (BitVec.eq_of_getLsbD_eq (fun i hi => h i hi))
theorem b_or (x y : Int32) (i : Nat) : bt (x ||| y) i = (bt x i || bt y i) := by unfold bt; rw [Int32.toBitVec_or, BitVec.getLsbD_or]
theorem b_and (x y : Int32) (i : Nat) : bt (x &&& y) i = (bt x i && bt y i) := by unfold bt; rw [Int32.toBitVec_and, BitVec.getLsbD_and]
theorem b_xor (x y : Int32) (i : Nat) : bt (x ^^^ y) i = (bt x i ^^ bt y i) := by unfold bt; rw [Int32.toBitVec_xor, BitVec.getLsbD_xor]
theorem b_big {x : Int32} {i : Nat} (h : 32 ≤ i) : bt x i = false := BitVec.getLsbD_of_ge _ _ h
theorem b_255 (i : Nat) : bt 255 i = decide (i < 8) := by
  rcases Nat.lt_or_ge i 32 with h | h
  · exact (by decide +kernel : ∀ i, i < 32 → bt 255 i = decide (i < 8)) i h
  · rw [b_big h, decide_eq_false (by omega)]
theorem b_65535 (i : Nat) : bt 65535 i = decide (i < 16) := by
  rcases Nat.lt_or_ge i 32 with h | h
  · exact (by decide +kernel : ∀ i, i < 32 → bt 65535 i = decide (i < 16)) i h
  · rw [b_big h, decide_eq_false (by omega)]
theorem b_m1 : ∀ i, i < 32 → bt (-1) i = true := by decide +kernel
theorem b_0 (i : Nat) : bt 0 i = false := BitVec.getLsbD_zero
theorem s_l : ∀ n, n < 32 → ((nI n &&& 31).toBitVec.smod 32).toNat = n := by decide +kernel
theorem s_u : ∀ n, n < 32 → (((nI n).toUInt32 &&& Int32.toUInt32 31).toBitVec % 32).toNat = n := by decide +kernel
theorem b_shl (n : Nat) (hn : n < 32) (x : Int32) {i : Nat} (hi : i < 32) : bt (x <<< (nI n &&& 31)) i = (decide (n ≤ i) && bt x (i - n)) := by
  unfold bt
  rw [Int32.toBitVec_shiftLeft]
  show (x.toBitVec <<< ((nI n &&& 31).toBitVec.smod 32).toNat).getLsbD i = _
  rw [s_l n hn, BitVec.getLsbD_shiftLeft]
  rcases Nat.lt_or_ge i n with h | h
  · simp [h, Nat.not_le.mpr h]
  · simp [hi, h, Nat.not_lt.mpr h]
theorem b_ushr (n : Nat) (hn : n < 32) (x : Int32) (i : Nat) : bt ((x.toUInt32 >>> ((nI n).toUInt32 &&& Int32.toUInt32 31)).toInt32) i = bt x (n + i) := by
  show (x.toUInt32 >>> ((nI n).toUInt32 &&& Int32.toUInt32 31)).toBitVec.getLsbD i = x.toUInt32.toBitVec.getLsbD (n + i)
  rw [UInt32.toBitVec_shiftRight]
  show (x.toUInt32.toBitVec >>> (((nI n).toUInt32 &&& Int32.toUInt32 31).toBitVec % 32).toNat).getLsbD i = _
  rw [s_u n hn, BitVec.getLsbD_ushiftRight]
theorem b_sshr (n : Nat) (hn : n < 32) (x : Int32) {i : Nat} (hi : i < 32) : bt (x >>> (nI n &&& 31)) i = if n + i < 32 then bt x (n + i) else bt x 31 := by
  unfold bt
  rw [Int32.toBitVec_shiftRight]
  show (x.toBitVec.sshiftRight ((nI n &&& 31).toBitVec.smod 32).toNat).getLsbD i = _
  rw [s_l n hn, BitVec.getLsbD_sshiftRight, BitVec.msb_eq_getLsbD_last]
  simp [hi]
theorem b_1 : ∀ i, i < 32 → bt 1 i = decide (i = 0) := by decide +kernel
theorem b_bit : ∀ j, j < 32 → ∀ k, k < 32 → bt ((1 : Int32) <<< (nI j &&& 31)) k = decide (j = k) := by decide +kernel
theorem b_not (x : Int32) {i : Nat} (h : i < 32) : bt (x ^^^ (-1)) i = !bt x i := by
  rw [b_xor, b_m1 i h]
  cases bt x i <;> rfl
theorem b_eq0 (x : Int32) : x = 0 ↔ ∀ i, i < 32 → bt x i = false := ⟨fun h i _ => by rw [h]; exact b_0 i, fun h => b_ext (fun i hi => (h i hi).trans (b_0 i).symm)⟩
theorem b_has (x : Int32) {k : Nat} (hk : k < 32) : (x >>> (nI k &&& 31)) &&& 1 = if bt x k then 1 else 0 := by
  apply b_ext
  intro i hi
  rw [b_and, b_1 i hi, b_sshr k hk x hi]
  by_cases e : i = 0
  · subst e
    rw [if_pos (by omega)]
    show (bt x k && true) = _
    cases bt x k <;> rfl
  · rw [decide_eq_false e, Bool.and_false]
    cases bt x k
    · exact (b_0 i).symm
    · exact ((b_1 i hi).trans (decide_eq_false e)).symm
theorem b_has1 (x : Int32) {k : Nat} (hk : k < 32) : ((x >>> (nI k &&& 31)) &&& 1 = 1) ↔ bt x k = true := by
  rw [b_has x hk]
  cases bt x k
  · exact ⟨fun h => absurd h (by decide), fun h => absurd h (by decide)⟩
  · exact ⟨fun _ => rfl, fun _ => rfl⟩
theorem c_has (x : Int32) {k : Nat} (hk : k < 8) : FX9_has x (nI k) = some (bt x k) := by
  unfold FX9_has
  rw [if_neg (nI_pos (by omega)), if_neg (show ¬ (8 : Int32) ≤ nI k from nI_ge hk (by decide))]
  cases e : bt x k
  · rw [if_neg (fun z => by rw [(b_has1 x (by omega)).mp z] at e; exact absurd e (by decide))]
  · rw [if_pos ((b_has1 x (by omega)).mpr e)]
theorem c_has_out (x v : Int32) (h : ∀ k, k < 8 → v ≠ nI k) : FX9_has x v = some false := by
  unfold FX9_has
  by_cases h1 : v < 0
  · rw [if_pos h1]
  · rw [if_neg h1]
    obtain ⟨j, hj, rfl⟩ := nI_of h1
    by_cases h8 : j < 8
    · exact absurd rfl (h j h8)
    · rw [if_pos (show (8 : Int32) ≤ nI j from nI_le (b := j) (a := 8) (by omega) hj)]
theorem m_has (x : Int32) {k : Nat} (hk : k < 32) : FX10_has x (nI k) = some (bt x k) := by
  unfold FX10_has
  cases e : bt x k
  · rw [if_neg (fun z => by rw [(b_has1 x hk).mp z] at e; exact absurd e (by decide))]
  · rw [if_pos ((b_has1 x hk).mpr e)]
/-- the set of those below n of whom P holds, as a loop makes it -/
def mk (P : Nat → Bool) : Nat → Int32
  | 0 => 0
  | n + 1 => if P n then mk P n ||| ((1 : Int32) <<< (nI n &&& 31)) else mk P n
theorem b_mk (P : Nat → Bool) : ∀ n, n ≤ 32 → ∀ k, k < 32 → bt (mk P n) k = (decide (k < n) && P k)
  | 0, _, k, hk => by
    rw [decide_eq_false (by omega)]
    exact b_0 k
  | n + 1, hn, k, hk => by
    unfold mk
    have ih := b_mk P n (by omega) k hk
    cases e : P n
    · rw [if_neg (by decide), ih]
      by_cases h1 : k < n
      · rw [decide_eq_true h1, decide_eq_true (show k < n + 1 by omega)]
      · rw [decide_eq_false h1]
        by_cases h2 : k = n
        · subst h2
          rw [e, Bool.and_false, Bool.and_false]
        · rw [decide_eq_false (by omega)]
    · rw [if_pos rfl, b_or, ih, b_bit n (by omega) k hk]
      by_cases h1 : k < n
      · rw [decide_eq_true h1, decide_eq_true (show k < n + 1 by omega), decide_eq_false (by omega), Bool.or_false]
      · rw [decide_eq_false h1]
        by_cases h2 : k = n
        · subst h2
          rw [e, decide_eq_true rfl, decide_eq_true (by omega)]
          rfl
        · rw [decide_eq_false (show ¬ n = k by omega), decide_eq_false (show ¬ k < n + 1 by omega)]
          rfl
theorem mk_t {P : Nat → Bool} {n : Nat} (h : P n = true) : mk P n ||| ((1 : Int32) <<< (nI n &&& 31)) = mk P (n + 1) := by
  show _ = if P n then mk P n ||| ((1 : Int32) <<< (nI n &&& 31)) else mk P n
  rw [h, if_pos rfl]
theorem mk_f {P : Nat → Bool} {n : Nat} (h : P n = false) : mk P n = mk P (n + 1) := by
  show _ = if P n then mk P n ||| ((1 : Int32) <<< (nI n &&& 31)) else mk P n
  rw [h, if_neg (by decide)]
theorem mk_congr {P Q : Nat → Bool} {n : Nat} (h : ∀ k, k < n → P k = Q k) : mk P n = mk Q n := by
  induction n with
  | zero => rfl
  | succ n ih =>
    show (if P n then mk P n ||| ((1 : Int32) <<< (nI n &&& 31)) else mk P n) = (if Q n then mk Q n ||| ((1 : Int32) <<< (nI n &&& 31)) else mk Q n)
    rw [h n (by omega), ih (fun k hk => h k (by omega))]
/-- a set of workers -/
def Sm (x : Int32) : Prop := ∀ k, 8 ≤ k → k < 32 → bt x k = false
theorem sm_mk {P : Nat → Bool} {n : Nat} (h : n ≤ 8) : Sm (mk P n) := fun k h1 h2 => by rw [b_mk P n (by omega) k h2, decide_eq_false (by omega)]; rfl
theorem sm_and {x y : Int32} (h : Sm x) : Sm (x &&& y) := fun k h1 h2 => by rw [b_and, h k h1 h2]; rfl
theorem sm_or {x y : Int32} (h : Sm x) (h' : Sm y) : Sm (x ||| y) := fun k h1 h2 => by rw [b_or, h k h1 h2, h' k h1 h2]; rfl
theorem sm_ext {x y : Int32} (hx : Sm x) (hy : Sm y) (h : ∀ k, k < 8 → bt x k = bt y k) : x = y := b_ext (fun i hi => by
  by_cases h8 : i < 8
  · exact h i h8
  · rw [hx i (by omega) hi, hy i (by omega) hi])
theorem sm_nat {x : Int32} (h : Sm x) : ∃ a, a < 256 ∧ x = nI a := by
  refine ⟨x.toBitVec.toNat, ?_, ?_⟩
  · exact Nat.lt_pow_two_of_testBit (n := 8) _ (fun i hi => by
      by_cases h2 : i < 32
      · exact h i hi h2
      · exact b_big (x := x) (by omega))
  · apply Int32.toBitVec_inj.1
    show x.toBitVec = BitVec.ofNat 32 x.toBitVec.toNat
    simp
/-- how many below n -/
def pc (P : Nat → Bool) : Nat → Nat
  | 0 => 0
  | n + 1 => pc P n + (if P n then 1 else 0)
theorem pc_le {P : Nat → Bool} : ∀ n, pc P n ≤ n
  | 0 => Nat.le_refl _
  | n + 1 => by
    have := pc_le (P := P) n
    show pc P n + (if P n then 1 else 0) ≤ n + 1
    split <;> omega
theorem pc_congr {P Q : Nat → Bool} {n : Nat} (h : ∀ k, k < n → P k = Q k) : pc P n = pc Q n := by
  induction n with
  | zero => rfl
  | succ n ih =>
    show pc P n + (if P n then 1 else 0) = pc Q n + (if Q n then 1 else 0)
    rw [h n (by omega), ih (fun k hk => h k (by omega))]
theorem c_bc : ∀ a, a < 256 → FJ6_bitCount_0f7a4 (nI a) = some (nI (pc (bt (nI a)) 8)) := by decide +kernel
theorem c_bits {x : Int32} (h : Sm x) : FJ6_bitCount_0f7a4 x = some (nI (pc (bt x) 8)) := by
  obtain ⟨a, ha, rfl⟩ := sm_nat h
  exact c_bc a ha
theorem m_bits (x : Int32) : FX10_bits x = some (nI (pc (bt x) 8)) := by
  have q : itr (FX10_bits_4 x) ((0 : Int32), (0 : Int32)) = some (nI (pc (bt x) 8)) := itr_chain (fun i => (nI (pc (bt x) i), nI i)) 8 (fun i hi => by
    unfold FX10_bits_4
    rw [if_neg (show ¬ (8 : Int32) ≤ nI i from nI_ge hi (by decide))]
    simp only [nm]
    rw [b_has x (by omega), nI_1]
    show some (Sum.inl (nI (pc (bt x) i) + (if bt x i = true then 1 else 0), nI (i + 1))) = some (Sum.inl (nI (pc (bt x) i + (if bt x i = true then 1 else 0)), nI (i + 1)))
    cases bt x i
    · rw [if_neg (by decide), if_neg (by decide), show nI (pc (bt x) i) + 0 = nI (pc (bt x) i) + nI 0 from rfl, nI_add]
    · rw [if_pos rfl, if_pos rfl, nI_1]) (by
    unfold FX10_bits_4
    rw [if_pos (show (8 : Int32) ≤ nI 8 from by decide)])
  unfold FX10_bits
  rw [q]
  rfl
