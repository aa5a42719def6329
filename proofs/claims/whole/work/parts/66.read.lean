/-! ===== the calls that read alone ===== -/
theorem b_fault : B_fault Rel := by
  rintro ⟨WD, PL, SC, SK, TP, HI, HS, HK, RD, PD, VW, TR, ST, VT, SF, IM⟩ MO v1 h
  have h5 := h
  obtain ⟨W, ln, -, -, -, -, ⟨f1, f2⟩, -⟩ := h5
  have f1' : Mo_faultKind MO = Wd_fault WD := f1
  have f2' : Mo_faultPlace MO = Wd_spot WD := f2
  show ∃ q g, FX9_fault WD v1 = some q ∧ FX10_fault MO v1 = some g ∧ q = g ∧ _
  unfold FX9_fault FX10_fault
  by_cases c0 : v1 = 0
  · rw [if_pos c0, if_pos c0, f1']
    exact ⟨_, _, rfl, rfl, rfl, h⟩
  · rw [if_neg c0, if_neg c0]
    by_cases c1 : v1 = 1
    · rw [if_pos c1, if_pos c1, f2']
      exact ⟨_, _, rfl, rfl, rfl, h⟩
    · rw [if_neg c1, if_neg c1]
      exact ⟨_, _, rfl, rfl, rfl, h⟩
theorem b_end : B_end Rel := by
  rintro ⟨WD, PL, SC, SK, TP, HI, HS, HK, RD, PD, VW, TR, ST, VT, SF, IM⟩ MO v1 h
  obtain ⟨W, ln, h1, h2, h3, h4, h5, ⟨n, n1, n2, n3, n4⟩, h7, h8, h9⟩ := h
  have n2' : Tp_length TP = nI n := n2
  show ∃ q g, FX9_end WD TP v1 = some q ∧ FX10_end MO v1 = some g ∧ q.1 = g.1 ∧ _
  unfold FX9_end FX10_end
  simp only [nm]
  rw [n2', n3, isIn_eq]
  simp only [Option.bind_some]
  by_cases c1 : v1 < 0
  · rw [if_pos c1, decide_eq_false (fun z => z.1 c1), if_pos bI_f]
    exact ⟨_, _, rfl, rfl, rfl, W, ln, h1, h2, h3, h4, h5, ⟨n, n1, n2, n3, n4⟩, h7, h8, h9⟩
  · rw [if_neg c1]
    by_cases c2 : v1 ≤ nI n
    · rw [if_pos c2, decide_eq_true ⟨c1, Int32.not_lt.mpr c2⟩, if_neg bI_t]
      obtain ⟨j, hj, rfl⟩ := nI_of c1
      have hjn : j ≤ n := (nI_leI hj (by omega)).mp c2
      exact ⟨_, _, rfl, rfl, rfl, W, ln, h1, h2, h3, h4, h5, ⟨j, by omega, rfl, rfl, fun i hi => n4 i (by omega)⟩, h7, h8, h9⟩
    · rw [if_neg c2, decide_eq_false (fun z => c2 (Int32.not_lt.mp z.2)), if_pos bI_f]
      exact ⟨_, _, rfl, rfl, rfl, W, ln, h1, h2, h3, h4, h5, ⟨n, n1, n2, n3, n4⟩, h7, h8, h9⟩
theorem at_out {n : Nat} {f : Nat → Int32} {v : Int32} (h : v < 0 ∨ nI n ≤ v) : FX9_at n f v = some (-1) := by
  unfold FX9_at
  by_cases c : v < 0
  · rw [if_pos c]
  · rw [if_neg c, if_pos (by rcases h with z | z; exact absurd z c; exact z)]
theorem z_a {all : Nat → Int32} {a x : Nat} {v : Int32} (h : all (0 + a + x) = v) : all (a + x) = v := by rwa [Nat.zero_add] at h
theorem z_b {all : Nat → Int32} {a : Nat} {v : Int32} (h : all (0 + a) = v) : all a = v := by rwa [Nat.zero_add] at h
theorem Z_ix {α : Type} {a x : Nat} (h : a + x < 9519) (k : Option α) : ix (nI a + nI x) 9519 k = k := by
  rw [nI_add]
  exact ix_nI h (by decide) k
theorem Z_cl {a x : Nat} (h : a + x < 9519) : (nI a + nI x).toNatClampNeg = a + x := by
  rw [nI_add]
  exact nI_clamp (by omega)
theorem b_holder : B_holder Rel := by
  rintro ⟨WD, PL, SC, SK, TP, HI, HS, HK, RD, PD, VW, TR, ST, VT, SF, IM⟩ MO v1 h
  have h' := h
  obtain ⟨W, ln, h1, h2, h3, -⟩ := h'
  show ∃ q g, FX9_holder WD SC v1 = some q ∧ FX10_holder MO v1 = some g ∧ q = g ∧ _
  unfold FX9_holder FX10_holder
  simp only [nm]
  rcases in_or (n := 6) v1 (by decide) with ⟨k, hk, rfl⟩ | c
  · rw [at_eq hk (by decide), show FX10_isIn (nI k) 0 5 = some true from isIn_t (a := 0) (b := 5) (by omega) (by omega) (by decide)]
    simp only [Option.bind_some]
    rw [if_neg bI_t, show (240 : Int32) + nI k = nI 240 + nI k from rfl, Z_ix (by omega), Z_cl (by omega), z_a (h3.2.2.2.1.2.2.2.2.2.2.2.1 k hk)]
    exact ⟨_, _, rfl, rfl, rfl, h⟩
  · rw [at_out c, show FX10_isIn v1 0 5 = some false from isIn_0f (n := 6) (by decide) c]
    simp only [Option.bind_some]
    rw [if_pos bI_f]
    exact ⟨_, _, rfl, rfl, rfl, h⟩
theorem b_pipe : B_pipe Rel := by
  rintro ⟨WD, PL, SC, SK, TP, HI, HS, HK, RD, PD, VW, TR, ST, VT, SF, IM⟩ MO v1 v2 h
  have h' := h
  obtain ⟨W, ln, h1, h2, h3, -⟩ := h'
  show ∃ q g, FX9_pipe WD PL SC v1 v2 = some q ∧ FX10_pipe MO v1 v2 = some g ∧ q = g ∧ _
  unfold FX9_pipe FX10_pipe
  simp only [nm]
  rcases in_or (n := 4) v1 (by decide) with ⟨k, hk, rfl⟩ | c
  · rw [at_eq hk (by decide), at_eq hk (by decide), show FX10_isIn (nI k) 0 3 = some true from isIn_t (a := 0) (b := 3) (by omega) (by omega) (by decide)]
    simp only [Option.bind_some]
    rw [if_neg bI_t]
    by_cases c : v2 = 0
    · rw [if_pos c, if_pos c, show (246 : Int32) + nI k = nI 246 + nI k from rfl, Z_ix (by omega), Z_cl (by omega), z_a (h3.2.2.2.1.2.2.2.2.2.2.2.2.1 k hk)]
      exact ⟨_, _, rfl, rfl, rfl, h⟩
    · rw [if_neg c, if_neg c, show (3 : Int32) + nI k = nI 3 + nI k from rfl, Z_ix (by omega), Z_cl (by omega), z_a (h3.2.2.1.2.1 k hk)]
      exact ⟨_, _, rfl, rfl, rfl, h⟩
  · rw [at_out c, at_out c, show FX10_isIn v1 0 3 = some false from isIn_0f (n := 4) (by decide) c]
    simp only [Option.bind_some]
    rw [if_pos bI_f]
    by_cases c : v2 = 0
    · rw [if_pos c]
      exact ⟨_, _, rfl, rfl, rfl, h⟩
    · rw [if_neg c]
      exact ⟨_, _, rfl, rfl, rfl, h⟩
theorem cell_out {PL : PlT} {W : Nat} {ln : Nat → Nat} (hP : PlanOK PL W ln) {v1 v2 : Int32} (h : v1 < 0 ∨ nI W ≤ v1) : FX1_cellOf PL v1 v2 = some (-1) := by
  unfold FX1_cellOf
  by_cases c : v1 < 0
  · rw [if_pos c]
  · rw [if_neg c, hP.1, if_pos (by rcases h with z | z; exact absurd z c; exact z)]
theorem cell_out2 {PL : PlT} {W : Nat} {ln : Nat → Nat} (hP : PlanOK PL W ln) {w : Nat} {v2 : Int32} (hw : w < W) (h : v2 < 0 ∨ nI (ln w) ≤ v2) : FX1_cellOf PL (nI w) v2 = some (-1) := by
  have h8 := hP.2.1
  unfold FX1_cellOf
  rw [if_neg (nI_pos (by omega)), hP.1, if_neg (nI_ge hw (by omega))]
  by_cases c : v2 < 0
  · rw [if_pos c]
  · rw [if_neg c, ix_nI (by omega) (by decide), nI_clamp (by omega), (hP.2.2.1 w hw).1, if_neg (by rcases h with z | z; exact absurd z c; exact Int32.not_lt.mpr z)]
theorem kind_out {PL : PlT} {v1 v2 : Int32} (h : FX1_cellOf PL v1 v2 = some (-1)) : FX1_kindAt PL v1 v2 = some (-1) := by
  unfold FX1_kindAt
  rw [h, Option.bind_some, at_neg]
  rfl
theorem number_out {PL : PlT} {v1 v2 : Int32} (h : FX1_cellOf PL v1 v2 = some (-1)) : FX1_numberAt PL v1 v2 = some (-1) := by
  unfold FX1_numberAt
  rw [h, Option.bind_some, at_neg]
  rfl
theorem b_step : B_step Rel := by
  rintro ⟨WD, PL, SC, SK, TP, HI, HS, HK, RD, PD, VW, TR, ST, VT, SF, IM⟩ MO v1 v2 v3 h
  have h' := h
  obtain ⟨W, ln, h1, h2, h3, -⟩ := h'
  have hP : PlanOK PL W ln := h3.1
  have h8 := hP.2.1
  show ∃ q g, FX9_step WD PL v1 v2 v3 = some q ∧ FX10_step MO v1 v2 v3 = some g ∧ q = g ∧ _
  unfold FX9_step FX10_step
  simp only [nm]
  rcases s_isW h3 v1 with ⟨w, hw, rfl, ew⟩ | ⟨c, ew⟩
  · have h12 := (hP.2.2.1 w hw).2.2
    rw [ew, Option.bind_some, if_neg bI_t, show (7 : Int32) + nI w = nI 7 + nI w from rfl, Z_ix (by omega), Z_cl (by omega), z_a (h3.2.2.1.2.2.1 w (by omega)), (hP.2.2.1 w hw).1]
    rcases in_or (n := ln w) v2 (by omega) with ⟨k, hk, rfl⟩ | c
    · rw [isIn_0t (by omega) hk, Option.bind_some, if_neg bI_t, s_sort h3 hw hk, s_number h3 hw hk, c_kind hP hw hk, c_number hP hw hk]
      by_cases c3 : v3 = 0
      · rw [if_pos c3]
        exact ⟨_, _, rfl, rfl, rfl, h⟩
      · rw [if_neg c3]
        exact ⟨_, _, rfl, rfl, rfl, h⟩
    · rw [isIn_0f (by omega) c, Option.bind_some, if_pos bI_f, kind_out (cell_out2 hP hw c), number_out (cell_out2 hP hw c)]
      by_cases c3 : v3 = 0
      · rw [if_pos c3]
        exact ⟨_, _, rfl, rfl, rfl, h⟩
      · rw [if_neg c3]
        exact ⟨_, _, rfl, rfl, rfl, h⟩
  · rw [ew, Option.bind_some, if_pos bI_f, kind_out (cell_out hP c), number_out (cell_out hP c)]
    by_cases c3 : v3 = 0
    · rw [if_pos c3]
      exact ⟨_, _, rfl, rfl, rfl, h⟩
    · rw [if_neg c3]
      exact ⟨_, _, rfl, rfl, rfl, h⟩
theorem b_messages : B_messages Rel := by
  rintro ⟨WD, PL, SC, SK, TP, HI, HS, HK, RD, PD, VW, TR, ST, VT, SF, IM⟩ MO v1 v2 h
  have h' := h
  obtain ⟨W, ln, h1, h2, h3, -⟩ := h'
  have hP : PlanOK PL W ln := h3.1
  have h8 := hP.2.1
  show ∃ q g, FX9_messages WD PL SC v1 v2 = some q ∧ FX10_messages MO v1 v2 = some g ∧ q = g ∧ _
  unfold FX9_messages FX10_messages
  simp only [nm]
  rcases s_isW h3 v1 with ⟨w, hw, rfl, ew⟩ | ⟨c, ew⟩
  · rw [ew, c_isW hP hw]
    simp only [Option.bind_some]
    rw [if_neg bI_t, if_neg bI_t]
    rcases s_isW h3 v2 with ⟨o, ho, rfl, eo⟩ | ⟨c, eo⟩
    · rw [eo, c_isW hP ho]
      simp only [Option.bind_some]
      rw [if_neg bI_t, if_neg bI_t, M_msg h3.2.2.2.2.1, Option.bind_some, ix_nI (by omega) (by decide), nI_clamp (by omega), h3.2.2.2.1.2.2.2.2.2.2.2.2.2.1 (8 * w + o) (by omega), show nI w * 8 + nI o = nI (8 * w + o) from by rw [show (8 : Int32) = nI 8 from rfl, pk_mul, nI_add]; congr 1; omega, ix_nI (by omega) (by decide), nI_clamp (by omega)]
      exact ⟨_, _, rfl, rfl, rfl, h⟩
    · rw [eo, c_isW_f hP c]
      simp only [Option.bind_some]
      rw [if_pos bI_f, if_pos bI_f]
      exact ⟨_, _, rfl, rfl, rfl, h⟩
  · rw [ew, c_isW_f hP c]
    simp only [Option.bind_some]
    rw [if_pos bI_f, if_pos bI_f]
    exact ⟨_, _, rfl, rfl, rfl, h⟩
theorem b_waits : B_waits Rel := by
  rintro ⟨WD, PL, SC, SK, TP, HI, HS, HK, RD, PD, VW, TR, ST, VT, SF, IM⟩ MO v1 h
  have h' := h
  obtain ⟨W, ln, h1, h2, h3, -, -, -, -, ⟨x1, x2, x3⟩, -⟩ := h'
  have hP : PlanOK PL W ln := h3.1
  have h8 := hP.2.1
  show ∃ q g, FX9_waits WD PL SC VW v1 = some q ∧ FX10_waits MO v1 = some g ∧ q.1 = g ∧ _
  unfold FX9_waits FX10_waits FX9_lookNow
  rcases s_isW h3 v1 with ⟨w, hw, rfl, ew⟩ | ⟨c, ew⟩
  · obtain ⟨VW', l1, l2⟩ := c_look VW hP h1 h3.2.1
    rw [ew, c_isW hP hw, l1]
    simp only [Option.bind_some]
    rw [if_neg bI_t, if_neg bI_t, s_waits h3 hw, ix_nI (by omega) (by decide), nI_clamp (by omega), l2.2.2.2.2.2.2.2.2 w hw]
    exact ⟨_, _, rfl, rfl, rfl, h.scr RD VW' TR VT x1 x2 x3 KeepM.rf (fun _ _ => rfl)⟩
  · rw [ew, c_isW_f hP c]
    simp only [Option.bind_some]
    rw [if_pos bI_f, if_pos bI_f]
    exact ⟨_, _, rfl, rfl, rfl, h⟩
theorem b_stall : B_stall Rel := by
  rintro ⟨WD, PL, SC, SK, TP, HI, HS, HK, RD, PD, VW, TR, ST, VT, SF, IM⟩ MO v1 v2 h
  have h' := h
  obtain ⟨W, ln, h1, h2, h3, ⟨k0, k1, k2, k3⟩, -⟩ := h'
  have k0' : SkOK SK := k0
  have he := k0'.e
  have hk := k0'.k
  have k1' : Mo_all MO 322 = nI (skK SK) := (z_b k1).trans hk.2
  show ∃ q g, FX9_stall WD SK v1 v2 = some q ∧ FX10_stall MO v1 v2 = some g ∧ q = g ∧ _
  unfold FX9_stall FX10_stall FX4_part
  simp only [nm]
  rw [show (322 : Int32) = nI 322 from rfl, ix_nI (by decide) (by decide), nI_clamp (by decide), k1', hk.2]
  rcases in_or (n := skK SK) v1 (by omega) with ⟨i, hi, rfl⟩ | c
  · rw [if_neg (nI_pos (by omega)), if_neg (nI_ge hi (by omega)), isIn_0t (by omega) hi, Option.bind_some, if_neg bI_t]
    rcases in_or (n := 5) v2 (by decide) with ⟨j, hj, rfl⟩ | c
    · rw [if_neg (nI_pos (by omega)), if_pos (show nI j < (5 : Int32) from nI_lt hj (by decide)), show FX10_isIn (nI j) 0 4 = some true from isIn_t (a := 0) (b := 4) (by omega) (by omega) (by decide), Option.bind_some, if_neg bI_t, show (324 : Int32) + 5 * nI i + nI j = nI (324 + 5 * i + j) from by rw [show (5 : Int32) = nI 5 from rfl, pk_mul, show (324 : Int32) = nI 324 from rfl, nI_add, nI_add], ix_nI (by omega) (by decide), nI_clamp (by omega), he.2, nI_add, show (30 : Int32) = nI 30 from rfl, pk_rem (by omega) (by decide) (by decide), show (5 : Int32) = nI 5 from rfl, pk_mul, nI_add, at_eq (by omega) (by decide)]
      have e := k3 i hi j hj
      rw [show 0 + 324 + 5 * i + j = 324 + 5 * i + j by omega] at e
      rw [e]
      exact ⟨_, _, rfl, rfl, rfl, h⟩
    · rw [show FX10_isIn v2 0 4 = some false from isIn_0f (n := 5) (by decide) c, Option.bind_some, if_pos bI_f]
      by_cases c0 : v2 < 0
      · rw [if_pos c0]
        exact ⟨_, _, rfl, rfl, rfl, h⟩
      · rw [if_neg c0, if_neg (by rcases c with z | z; exact absurd z c0; exact Int32.not_lt.mpr z)]
        exact ⟨_, _, rfl, rfl, rfl, h⟩
  · rw [isIn_0f (by omega) c, Option.bind_some, if_pos bI_f]
    by_cases c0 : v1 < 0
    · rw [if_pos c0]
      exact ⟨_, _, rfl, rfl, rfl, h⟩
    · rw [if_neg c0, if_pos (by rcases c with z | z; exact absurd z c0; exact z)]
      exact ⟨_, _, rfl, rfl, rfl, h⟩
