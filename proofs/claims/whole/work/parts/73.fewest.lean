/-! ===== the fewest to be let go ===== -/
def lgF (PL : PlT) (ln : Nat → Nat) (SC : ScT) (x : Int32) : Nat → ScT
  | 0 => SC
  | n + 1 => if bt x n = true then lgS PL ln (lgF PL ln SC x n) n else lgF PL ln SC x n
def sbB (PL : PlT) (W : Nat) (SC : ScT) (n : Nat) : Bool := decide (nI n &&& (mk (heB PL SC) W ^^^ (-1)) = 0)
def lnh (PL : PlT) (W : Nat) (ln : Nat → Nat) (SC : ScT) (n : Nat) : Bool := decide (hdS PL W ln (lgF PL ln SC (nI n) W) = 0)
def pcb (n : Nat) : Nat := pc (bt (nI n)) 8
def smB (n : Nat) : Option Nat → Bool
  | none => true
  | some b => decide (pcb n < pcb b)
def fw (PL : PlT) (W : Nat) (ln : Nat → Nat) (SC : ScT) : Nat → Option Nat
  | 0 => none
  | n + 1 => if (sbB PL W SC n && (smB n (fw PL W ln SC n) && lnh PL W ln SC n)) = true then some n else fw PL W ln SC n
def szI : Option Nat → Nat
  | none => 9
  | some b => pcb b
section FEWEST
variable {μ : Prop} {PL : PlT} {W : Nat} {ln : Nat → Nat} {SC : ScT} {MO : MoT} {β : Nat}
theorem fw_lt : ∀ {n b : Nat}, fw PL W ln SC n = some b → b < n
  | 0, b, h => by cases h
  | n + 1, b, h => by
    unfold fw at h
    split at h
    · have := Option.some.inj h
      omega
    · have := fw_lt h
      omega
/-- one that is held up stays so when another one is let go -/
theorem he_stay (hP : PlanOK PL W ln) (hS : SceneOK W ln SC) {w o : Nat} (hw : w < W) (ho : o < W) (hne : o ≠ w) (h : heB PL SC o = true) : heB PL (lgS PL ln SC w) o = true := by
  obtain ⟨k, hk, e, hc, hp⟩ := he_at hP hS ho h
  have h12 := (hP.2.2.1 o ho).2.2
  have ep : Sc_place (lgS PL ln SC w) o = nI k := by
    unfold lgS
    by_cases c : kdN PL SC w = nI 1
    · rw [if_pos c]
      exact (u_ne hne).trans e
    · rw [if_neg c]
      exact (u_ne hne).trans e
  have el : Sc_lies (lgS PL ln SC w) = Sc_lies SC := by
    unfold lgS
    by_cases c : kdN PL SC w = nI 1
    · rw [if_pos c]
      rfl
    · rw [if_neg c]
      rfl
  have em : Sc_mail (lgS PL ln SC w) = Sc_mail SC := by
    unfold lgS
    by_cases c : kdN PL SC w = nI 1
    · rw [if_pos c]
      rfl
    · rw [if_neg c]
      rfl
  have eh : ∀ x, Sc_holders SC x ≠ -1 → Sc_holders (lgS PL ln SC w) x ≠ -1 := fun x hx => by
    unfold lgS
    by_cases c : kdN PL SC w = nI 1
    · rw [if_pos c]
      show upd (Sc_holders SC) (nuN PL SC w).toNatClampNeg (nI w) x ≠ -1
      by_cases c2 : x = (nuN PL SC w).toNatClampNeg
      · rw [u_eq c2]
        have h8 := hP.2.1
        exact nI_m1 w (by omega)
      · rw [u_ne c2]
        exact hx
    · rw [if_neg c]
      exact hx
  have hc' : canB PL (lgS PL ln SC w) o k = false := by
    unfold canB at hc ⊢
    rw [el, em]
    rcases he_kinds hP ho hk (by unfold canB; exact hc) with ⟨k1, x, hx, ex, hn⟩ | ⟨k3, x, hx, ex⟩ | ⟨k4, x, hx, ex⟩ | ⟨k6, x, hx, hne', ex⟩
    · rw [if_pos k1, ex, nI_clamp (by omega), decide_eq_false (eh x hn)]
    · rw [k3, if_neg (by decide), if_pos rfl] at hc ⊢
      exact hc
    · rw [k4, if_neg (by decide), if_neg (by decide), if_pos rfl] at hc ⊢
      exact hc
    · rw [k6, if_neg (by decide), if_neg (by decide), if_neg (by decide), if_pos rfl] at hc ⊢
      exact hc
  unfold heB
  rw [en_f ep (by omega), pl_eq ep (by omega), hc']
  rfl
/-- let go one behind the other: those still to come are held up -/
theorem lgF_ok (hP : PlanOK PL W ln) (hS : SceneOK W ln SC) (hN : NormS SC) {x : Int32} (hx : ∀ w, w < W → bt x w = true → heB PL SC w = true) : ∀ n, n ≤ W → SceneOK W ln (lgF PL ln SC x n) ∧ NormS (lgF PL ln SC x n) ∧ ∀ o, n ≤ o → o < W → bt x o = true → heB PL (lgF PL ln SC x n) o = true
  | 0, _ => ⟨hS, hN, fun o _ ho hb => hx o ho hb⟩
  | n + 1, hn => by
    obtain ⟨i1, i2, i3⟩ := lgF_ok hP hS hN hx n (by omega)
    by_cases c : bt x n = true
    · have hh := i3 n (Nat.le_refl _) (by omega) c
      obtain ⟨k, hk, e, -, -⟩ := he_at hP i1 (by omega) hh
      obtain ⟨g1, g2, g3⟩ := c_letGo hP i1 (show n < W by omega) hk e
      rw [show lgF PL ln SC x (n + 1) = lgS PL ln (lgF PL ln SC x n) n from if_pos c]
      exact ⟨g2, g3 i2, fun o h1 h2 h3 => he_stay hP i1 (by omega) h2 (by omega) (i3 o (by omega) h2 h3)⟩
    · rw [show lgF PL ln SC x (n + 1) = lgF PL ln SC x n from if_neg c]
      exact ⟨i1, i2, fun o h1 h2 h3 => i3 o (by omega) h2 h3⟩
theorem c_leaves {TR : TrT} {ST : ScT} {VT : VwT} (hP : PlanOK PL W ln) (hR : ReachOK PL W ln) (hS : SceneOK W ln SC) (hN : NormS SC) (hNt : NormS ST) {n : Nat} (hx : ∀ w, w < W → bt (nI n) w = true → heB PL SC w = true) : ∃ VT', FX6_leavesNoneHard TR ST VT PL SC (nI n) = some (lnh PL W ln SC n, lgF PL ln SC (nI n) W, VT') ∧ NormS (lgF PL ln SC (nI n) W) := by
  have h8 := hP.2.1
  have q : itr (FX6_leavesNoneHard_11 PL (nI n)) ((0 : Int32), SC) = some (lgF PL ln SC (nI n) W) := by
    refine itr_chain (fun i => (nI i, lgF PL ln SC (nI n) i)) W (fun i hi => ?_) ?_
    · unfold FX6_leavesNoneHard_11
      simp only [nm]
      rw [hP.1, if_neg (nI_ge hi (by omega)), c_has _ (show i < 8 by omega), nI_1]
      simp only [Option.bind_some]
      obtain ⟨i1, i2, i3⟩ := lgF_ok hP hS hN hx i (by omega)
      cases c : bt (nI n) i
      · rw [if_pos bI_f, show lgF PL ln SC (nI n) (i + 1) = lgF PL ln SC (nI n) i from if_neg (by rw [c]; decide)]
      · obtain ⟨k, hk, e, -, -⟩ := he_at hP i1 hi (i3 i (Nat.le_refl _) hi c)
        rw [if_neg bI_t, (c_letGo hP i1 hi hk e).1, show lgF PL ln SC (nI n) (i + 1) = lgS PL ln (lgF PL ln SC (nI n) i) i from if_pos c]
        rfl
    · unfold FX6_leavesNoneHard_11
      rw [hP.1, if_pos (nI_le (Nat.le_refl _) (by omega))]
  obtain ⟨i1, i2, i3⟩ := lgF_ok hP hS hN hx W (Nat.le_refl _)
  obtain ⟨VT', l1, l2⟩ := c_look VT hP hR i1
  refine ⟨VT', ?_, i2⟩
  unfold FX6_leavesNoneHard lnh
  rw [take_eq hNt hN, Option.bind_some, q, Option.bind_some, l1, Option.bind_some, l2.2.2.2.2.1]
  by_cases c : hdS PL W ln (lgF PL ln SC (nI n) W) = 0
  · rw [if_pos c, decide_eq_true c]
  · rw [if_neg c, decide_eq_false c]
/-- what trials leave as it was -/
def Out2 (all all' : Nat → Int32) : Prop := ∀ j, (j < 474 ∨ 1422 ≤ j) → all' j = all j
theorem s_leaves {SK : SkT} (h : Sim True PL W ln SC MO 0) (hK : SegK SK (Mo_all MO) 0) {n : Nat} (hx : ∀ w, w < W → bt (nI n) w = true → heB PL SC w = true) : ∃ all', FX10_areFreed MO (nI n) = some (lnh PL W ln SC n, sMo_all MO all') ∧ Out2 (Mo_all MO) all' := by
  have h8 := h.W8
  have hP := h.1
  have hN : NormS SC := h.2.2.2.1.2.2.2.2.2.2.2.2.2.2.2
  obtain ⟨all1, a1, a2, a3, a4⟩ := s_aside h hK
  obtain ⟨e, q1, all2, rfl, q2, q3⟩ := itr_inv (f := FX10_areFreed_6 (nI n)) (Q := fun e => ∃ all', e = sMo_b (sMo_all MO all') (nI 474) ∧ Sim True PL W ln (lgF PL ln SC (nI n) W) (sMo_b (sMo_all MO all') (nI 474)) 474 ∧ Out2 (Mo_all MO) all') (fun i t => ∃ all', t = (nI i, sMo_b (sMo_all MO all') (nI 474)) ∧ Sim True PL W ln (lgF PL ln SC (nI n) i) (sMo_b (sMo_all MO all') (nI 474)) 474 ∧ Out2 (Mo_all MO) all') W (by
    rintro i t hi ⟨all', rfl, r1, r2⟩
    unfold FX10_areFreed_6
    simp only [nm]
    rw [s_workers r1, Option.bind_some, nI_1]
    by_cases hiW : i < W
    · left
      refine ⟨hiW, ?_⟩
      obtain ⟨i1, i2, i3⟩ := lgF_ok hP h.2.1 hN hx i (by omega)
      rw [if_neg (nI_ge hiW (by omega)), m_has _ (show i < 32 by omega), Option.bind_some]
      cases c : bt (nI n) i
      · rw [if_pos bI_f]
        refine ⟨_, rfl, all', rfl, ?_, r2⟩
        rw [show lgF PL ln SC (nI n) (i + 1) = lgF PL ln SC (nI n) i from if_neg (by rw [c]; decide)]
        exact r1
      · have hh := i3 i (Nat.le_refl _) hiW c
        obtain ⟨k, hk, e, -, -⟩ := he_at hP i1 hiW hh
        obtain ⟨all2, s1, s2, s3⟩ := s_letsGo r1 hiW hk e
        rw [if_neg bI_t, s_held r1 hiW, hh, Option.bind_some, if_neg bI_t, s1, Option.bind_some]
        refine ⟨_, rfl, all2, rfl, ?_, fun j hj => (s3 j (by omega)).trans (r2 j hj)⟩
        rw [show lgF PL ln SC (nI n) (i + 1) = lgS PL ln (lgF PL ln SC (nI n) i) i from if_pos c]
        exact s2
    · right
      have : i = W := by omega
      subst this
      rw [if_pos (nI_le (Nat.le_refl _) (by omega))]
      exact ⟨_, rfl, all', rfl, r1, r2⟩) (s := ((0 : Int32), sMo_b (sMo_all MO all1) (nI 474))) ⟨all1, rfl, a2, fun j hj => a4 j (by omega)⟩
  refine ⟨all2, ?_, q3⟩
  have hb := h.2.2.2.2.1
  have eb : sMo_b (sMo_b (sMo_all MO all2) (nI 474)) 0 = sMo_all MO all2 := by
    show sMo_b (sMo_all MO all2) 0 = _
    rw [show (0 : Int32) = Mo_b MO from hb.symm]
  unfold FX10_areFreed lnh
  refine bd_of a1 ?_
  refine bd_of q1 ?_
  refine bd_of (s_hard q2) ?_
  by_cases c : hdS PL W ln (lgF PL ln SC (nI n) W) = 0
  · rw [if_pos c, decide_eq_true c]
    exact congrArg (fun z => some (true, z)) eb
  · rw [if_neg c, decide_eq_false c]
    exact congrArg (fun z => some (false, z)) eb
theorem sub_he {n : Nat} (hW : W ≤ 8) (h : sbB PL W SC n = true) : (∀ w, w < W → bt (nI n) w = true → heB PL SC w = true) ∧ ∀ i, i < 32 → bt (nI n) i = true → i < W := by
  have h0 := (b_eq0 _).mp (of_decide_eq_true h)
  have key : ∀ i, i < 32 → bt (nI n) i = true → i < W ∧ heB PL SC i = true := fun i hi hb => by
    have := h0 i hi
    rw [b_and, hb, b_not _ hi, b_mk _ W (by omega) i hi, Bool.true_and] at this
    by_cases c : i < W
    · refine ⟨c, ?_⟩
      rw [decide_eq_true c, Bool.true_and] at this
      cases z : heB PL SC i
      · rw [z] at this
        exact absurd this (by decide)
      · rfl
    · rw [decide_eq_false c] at this
      exact absurd (show true = false from this) (by decide)
  exact ⟨fun w hw hb => (key w (by omega) hb).2, fun i hi hb => (key i hi hb).1⟩
theorem sub_lt {n : Nat} (hW : W ≤ 8) (hn : n < 256) (h : sbB PL W SC n = true) : n < 2 ^ W := by
  refine Nat.lt_pow_two_of_testBit _ (fun i hi => ?_)
  cases z : n.testBit i
  · rfl
  · exfalso
    by_cases h32 : i < 32
    · have hb : bt (nI n) i = true := by
        show (BitVec.ofNat 32 n).getLsbD i = true
        rw [BitVec.getLsbD_ofNat, z, decide_eq_true h32]
        rfl
      have := (sub_he hW h).2 i h32 hb
      omega
    · have : n < 2 ^ i := Nat.lt_of_lt_of_le hn (Nat.le_trans (show 256 ≤ 2 ^ 32 by decide) (Nat.pow_le_pow_right (by decide) (by omega)))
      rw [Nat.testBit_lt_two_pow this] at z
      exact bft z
theorem fw_more (hW : W ≤ 8) : ∀ d, 2 ^ W + d ≤ 256 → fw PL W ln SC (2 ^ W + d) = fw PL W ln SC (2 ^ W)
  | 0, _ => rfl
  | d + 1, hd => by
    have hs : sbB PL W SC (2 ^ W + d) = false := by
      cases z : sbB PL W SC (2 ^ W + d)
      · rfl
      · have := sub_lt hW (by omega) z
        omega
    have hne : ¬ (sbB PL W SC (2 ^ W + d) && (smB (2 ^ W + d) (fw PL W ln SC (2 ^ W + d)) && lnh PL W ln SC (2 ^ W + d))) = true := by
      rw [hs]
      exact fun y => bft y
    rw [show fw PL W ln SC (2 ^ W + (d + 1)) = fw PL W ln SC (2 ^ W + d) from if_neg hne]
    exact fw_more hW d (by omega)
theorem pcb_le {n : Nat} : pcb n ≤ 8 := pc_le 8
theorem sz_le {x : Option Nat} : szI x ≤ 9 := by
  cases x with
  | none => exact Nat.le_refl _
  | some b => exact Nat.le_trans pcb_le (by omega)
theorem sm_sz {n : Nat} {x : Option Nat} : smB n x = decide (pcb n < szI x) := by
  cases x with
  | none =>
    show true = decide (pcb n < 9)
    rw [decide_eq_true (by have := pcb_le (n := n); omega)]
  | some b => rfl
theorem c_few {TR : TrT} {ST : ScT} {VT : VwT} (hP : PlanOK PL W ln) (hR : ReachOK PL W ln) (hS : SceneOK W ln SC) (hN : NormS SC) (hNt : NormS ST) : ∃ ST' VT', FX6_fewestOf TR ST VT PL SC (mk (heB PL SC) W) = some (oI (fw PL W ln SC 256), ST', VT') ∧ NormS ST' := by
  have h8 := hP.2.1
  obtain ⟨e, q1, ST', VT', rfl, q2⟩ := itr_inv (f := FX6_fewestOf_10 TR PL SC (mk (heB PL SC) W)) (Q := fun e => ∃ ST' VT', e = (oI (fw PL W ln SC 256), ST', VT') ∧ NormS ST') (fun i t => ∃ ST' VT', t = (oI (fw PL W ln SC i), nI (szI (fw PL W ln SC i)), nI i, ST', VT') ∧ NormS ST') 256 (by
    rintro i t hi ⟨ST1, VT1, rfl, hn⟩
    unfold FX6_fewestOf_10
    by_cases hiW : i < 256
    · left
      refine ⟨hiW, ?_⟩
      have hsz := sz_le (x := fw PL W ln SC i)
      have hpb := pcb_le (n := i)
      rw [if_neg (show ¬ (256 : Int32) ≤ nI i from nI_ge (b := 256) hiW (by decide)), c_bc i hiW, Option.bind_some]
      have stay : (sbB PL W SC i && (smB i (fw PL W ln SC i) && lnh PL W ln SC i)) = false → ∀ ST2 VT2, NormS ST2 → ∃ t, some (Sum.inl (oI (fw PL W ln SC i), nI (szI (fw PL W ln SC i)), nI (i + 1), ST2, VT2)) = (some (Sum.inl t) : Option ((Int32 × Int32 × Int32 × ScT × VwT) ⊕ (Int32 × ScT × VwT))) ∧ ∃ ST' VT', t = (oI (fw PL W ln SC (i + 1)), nI (szI (fw PL W ln SC (i + 1))), nI (i + 1), ST', VT') ∧ NormS ST' := by
        intro hz ST2 VT2 hn2
        have er : fw PL W ln SC (i + 1) = fw PL W ln SC i := if_neg (by rw [hz]; decide)
        rw [er]
        exact ⟨_, rfl, ST2, VT2, rfl, hn2⟩
      unfold FX6_fewestOf_j33
      simp only [nm]
      rw [nI_1]
      cases hs : sbB PL W SC i
      · have hne : ¬ nI i &&& (mk (heB PL SC) W ^^^ (-1)) = 0 := of_decide_eq_false hs
        rw [if_neg hne, if_neg hne]
        have := stay (by rw [hs]; rfl) ST1 VT1 hn
        split
        · exact this
        · exact this
      · have heq : nI i &&& (mk (heB PL SC) W ^^^ (-1)) = 0 := of_decide_eq_true hs
        rw [if_pos heq, if_pos heq]
        by_cases c : szI (fw PL W ln SC i) ≤ pcb i
        · rw [if_pos (show nI (szI (fw PL W ln SC i)) ≤ nI (pc (bt (nI i)) 8) from nI_le (b := pcb i) c (by omega)), if_pos trivial]
          exact stay (by rw [hs, sm_sz, decide_eq_false (by omega)]; rfl) ST1 VT1 hn
        · obtain ⟨VT2, l1, l2⟩ := c_leaves (TR := TR) (ST := ST1) (VT := VT1) hP hR hS hN hn (n := i) (sub_he h8 hs).1
          rw [if_neg (show ¬ nI (szI (fw PL W ln SC i)) ≤ nI (pc (bt (nI i)) 8) from nI_ge (show pcb i < szI (fw PL W ln SC i) by omega) (by omega)), if_neg (by decide), l1]
          simp only [Option.bind_some]
          cases hl : lnh PL W ln SC i
          · rw [if_pos bI_f]
            exact stay (by rw [hl]; simp) _ _ l2
          · have er : fw PL W ln SC (i + 1) = some i := if_pos (by rw [hs, sm_sz, decide_eq_true (by omega), hl]; rfl)
            rw [if_neg bI_t, er, c_bc i hiW]
            exact ⟨_, rfl, _, _, rfl, l2⟩
    · right
      have : i = 256 := by omega
      subst this
      rw [if_pos (show (256 : Int32) ≤ nI 256 by decide)]
      exact ⟨_, rfl, ST1, VT1, rfl, hn⟩) (s := ((-1 : Int32), (9 : Int32), (0 : Int32), ST, VT)) ⟨ST, VT, rfl, hNt⟩
  refine ⟨ST', VT', ?_, q2⟩
  unfold FX6_fewestOf
  rw [q1]
  rfl
theorem shl_W : ∀ w, w < 9 → (1 : Int32) <<< (nI w &&& 31) = nI (2 ^ w) := by decide +kernel
theorem s_few {SK : SkT} (h : Sim True PL W ln SC MO 0) (hK : SegK SK (Mo_all MO) 0) : ∃ all', itr (FX10_fewest_41 (mk (heB PL SC) W)) ((-1 : Int32), (0 : Int32), MO) = some (oI (fw PL W ln SC (2 ^ W)), sMo_all MO all') ∧ Out2 (Mo_all MO) all' := by
  have h8 := h.W8
  have hpow : 2 ^ W ≤ 256 := Nat.le_trans (Nat.pow_le_pow_right (by decide) h8) (by decide)
  obtain ⟨e, q1, all', rfl, q2⟩ := itr_inv (f := FX10_fewest_41 (mk (heB PL SC) W)) (Q := fun e => ∃ all', e = (oI (fw PL W ln SC (2 ^ W)), sMo_all MO all') ∧ Out2 (Mo_all MO) all') (fun i t => ∃ all', t = (oI (fw PL W ln SC i), nI i, sMo_all MO all') ∧ Out2 (Mo_all MO) all') (2 ^ W) (by
    rintro i t hi ⟨all1, rfl, ho⟩
    have hs1 : Sim True PL W ln SC (sMo_all MO all1) 0 := h.mv h.2.2.2.2.1 (by omega) (fun i hi => ho _ (by omega))
    have hk1 : SegK SK all1 0 := hK.mv (fun i hi => ho _ (by omega))
    unfold FX10_fewest_41
    simp only [nm]
    rw [s_workers hs1, Option.bind_some, shl_W W (by omega), nI_1]
    by_cases hiW : i < 2 ^ W
    · left
      refine ⟨hiW, ?_⟩
      rw [if_neg (nI_ge hiW (by omega))]
      have stay : (sbB PL W SC i && (smB i (fw PL W ln SC i) && lnh PL W ln SC i)) = false → ∀ all2, Out2 (Mo_all MO) all2 → ∃ t, some (Sum.inl (oI (fw PL W ln SC i), nI (i + 1), sMo_all MO all2)) = (some (Sum.inl t) : Option ((Int32 × Int32 × MoT) ⊕ (Int32 × MoT))) ∧ ∃ all', t = (oI (fw PL W ln SC (i + 1)), nI (i + 1), sMo_all MO all') ∧ Out2 (Mo_all MO) all' := by
        intro hz all2 ho2
        have er : fw PL W ln SC (i + 1) = fw PL W ln SC i := if_neg (by rw [hz]; decide)
        rw [er]
        exact ⟨_, rfl, all2, rfl, ho2⟩
      cases hs : sbB PL W SC i
      · rw [if_neg (of_decide_eq_false hs)]
        exact stay (by rw [hs]; rfl) all1 ho
      · rw [if_pos (of_decide_eq_true hs)]
        obtain ⟨all2, l1, l2⟩ := s_leaves hs1 hk1 (n := i) (sub_he h8 hs).1
        have ho2 : Out2 (Mo_all MO) all2 := fun j hj => (l2 j hj).trans (ho j hj)
        have take : smB i (fw PL W ln SC i) = true → ∃ t, (FX10_areFreed (sMo_all MO all1) (nI i)).bind (fun r16 => if bI r16.1 = 0 then some (Sum.inl (oI (fw PL W ln SC i), nI (i + 1), r16.2)) else some (Sum.inl (nI i, nI (i + 1), r16.2))) = (some (Sum.inl t) : Option ((Int32 × Int32 × MoT) ⊕ (Int32 × MoT))) ∧ ∃ all', t = (oI (fw PL W ln SC (i + 1)), nI (i + 1), sMo_all MO all') ∧ Out2 (Mo_all MO) all' := by
          intro hsm
          rw [l1]
          simp only [Option.bind_some]
          cases hl : lnh PL W ln SC i
          · rw [if_pos bI_f]
            exact stay (by rw [hl]; simp) all2 ho2
          · have er : fw PL W ln SC (i + 1) = some i := if_pos (by rw [hs, hsm, hl]; rfl)
            rw [if_neg bI_t, er]
            exact ⟨_, rfl, all2, rfl, ho2⟩
        cases hf : fw PL W ln SC i with
        | none =>
          rw [if_pos (show oI none = -1 from rfl)]
          rw [hf] at take
          exact take rfl
        | some b =>
          have hb := fw_lt hf
          rw [if_neg (show ¬ oI (some b) = -1 from nI_m1 b (by omega)), m_bits, m_bits]
          simp only [Option.bind_some]
          have hpi := pcb_le (n := i)
          have hpb := pcb_le (n := b)
          by_cases c : pcb b ≤ pcb i
          · rw [if_pos (show nI (pc (bt (oI (some b))) 8) ≤ nI (pc (bt (nI i)) 8) from nI_le (a := pcb b) (b := pcb i) c (by omega))]
            rw [hf] at stay
            exact stay (by show (_ && (decide (pcb i < pcb b) && _)) = false; rw [decide_eq_false (by omega)]; simp) all1 ho
          · rw [if_neg (show ¬ nI (pc (bt (oI (some b))) 8) ≤ nI (pc (bt (nI i)) 8) from nI_ge (a := pcb i) (b := pcb b) (by omega) (by omega))]
            rw [hf] at take
            exact take (decide_eq_true (by omega))
    · right
      have : i = 2 ^ W := by omega
      subst this
      rw [if_pos (nI_le (Nat.le_refl _) (by omega))]
      exact ⟨_, rfl, all1, rfl, ho⟩) (s := ((-1 : Int32), (0 : Int32), MO)) ⟨Mo_all MO, rfl, fun _ _ => rfl⟩
  exact ⟨all', q1, q2⟩
theorem s_heldN (h : Sim μ PL W ln SC MO β) : itr (FX10_fewest_4 MO) ((0 : Int32), (0 : Int32)) = some (mk (heB PL SC) W) := by
  have h8 := h.W8
  refine itr_chain (fun i => (mk (heB PL SC) i, nI i)) W (fun i hi => ?_) ?_
  · unfold FX10_fewest_4
    rw [s_workers h]
    simp only [Option.bind_some, nm]
    rw [if_neg (nI_ge hi (by omega)), nI_1, s_held h hi]
    simp only [Option.bind_some]
    cases e : heB PL SC i
    · have e0 : mk (heB PL SC) i ||| 0 = mk (heB PL SC) i := by
        apply b_ext
        intro j hj
        rw [b_or, b_0, Bool.or_false]
      rw [if_pos bI_f, e0, ← mk_f e]
    · rw [if_neg bI_t, mk_t e]
  · unfold FX10_fewest_4
    rw [s_workers h]
    simp only [Option.bind_some]
    rw [if_pos (nI_le (Nat.le_refl _) (by omega))]
end FEWEST
theorem b_fewest : B_fewest Rel := by
  rintro ⟨WD, PL, SC, SK, TP, HI, HS, HK, RD, PD, VW, TR, ST, VT, SF, IM⟩ MO v1 h
  have h' := h
  obtain ⟨W, ln, h1, h2, h3, h4, h5, h6, h7, ⟨x1, x2, x3⟩, h9⟩ := h'
  have hP : PlanOK PL W ln := h3.1
  have hO : SceneOK W ln SC := h3.2.1
  have h8 := hP.2.1
  have hN : NormS SC := h3.2.2.2.1.2.2.2.2.2.2.2.2.2.2.2
  have x2' : NormS ST := x2
  have hpow : 2 ^ W ≤ 256 := Nat.le_trans (Nat.pow_le_pow_right (by decide) h8) (by decide)
  show ∃ q g, FX9_fewest WD PL SC TR ST VT VW v1 = some q ∧ FX10_fewest MO v1 = some g ∧ q.1 = g.1 ∧ Rel (WD, PL, SC, SK, TP, HI, HS, HK, RD, PD, q.2.2.2, TR, q.2.1, q.2.2.1, SF, IM) g.2
  obtain ⟨VW', l1, l2⟩ := c_look VW hP h1 hO
  obtain ⟨ST', VT', f1, f2⟩ := c_few (TR := TR) (ST := ST) (VT := VT) hP h1 hO hN x2'
  obtain ⟨all', g1, g2⟩ := s_few h3 h4
  have efw : fw PL W ln SC 256 = fw PL W ln SC (2 ^ W) := by
    have := fw_more (PL := PL) (ln := ln) (SC := SC) h8 (256 - 2 ^ W) (by omega)
    rw [show 2 ^ W + (256 - 2 ^ W) = 256 by omega] at this
    exact this
  have hfin : Rel (WD, PL, SC, SK, TP, HI, HS, HK, RD, PD, VW', TR, ST', VT', SF, IM) (sMo_all MO all') := h.scr RD VW' TR VT' x1 f2 x3 KeepM.al (fun j hj => g2 j (by omega))
  unfold FX9_fewest FX10_fewest FX9_lookNow
  rw [l1, s_heldN h3]
  simp only [Option.bind_some]
  rw [l2.2.2.1, f1, show itr (FX10_fewest_41 (mk (heB PL SC) W)) ((-1 : Int32), (0 : Int32), MO) = _ from g1, efw]
  simp only [Option.bind_some]
  cases hf : fw PL W ln SC (2 ^ W) with
  | none =>
    rw [if_pos (show oI none = -1 from rfl), if_pos (show oI none = -1 from rfl)]
    exact ⟨_, _, rfl, rfl, rfl, hfin⟩
  | some b =>
    have hb := fw_lt hf
    rw [if_neg (show ¬ oI (some b) = -1 from nI_m1 b (by omega)), if_neg (show ¬ oI (some b) = -1 from nI_m1 b (by omega)), show FJ6_bitCount_0f7a4 (oI (some b)) = some (nI (pcb b)) from c_bc b (by omega), show FX10_bits (oI (some b)) = some (nI (pcb b)) from m_bits (nI b)]
    by_cases c : v1 = 0
    · rw [if_pos c, if_pos c]
      exact ⟨_, _, rfl, rfl, rfl, hfin⟩
    · rw [if_neg c, if_neg c]
      exact ⟨_, _, rfl, rfl, rfl, hfin⟩
