theorem it_zero {σ ε : Type} {f : σ → Option (σ ⊕ ε)} {s : σ} {e : ε} (h : it f 0 s = some e) : False := by cases h
def cpOK (ty : FieldType) (sp dp n : Int32) (n0 n1 : Nat) (f : Nat → Int32) : Prop := ¬ sp < 0 ∧ ¬ dp < 0 ∧ ¬ n < 0 ∧ sp.toNatClampNeg + n.toNatClampNeg ≤ n0 ∧ dp.toNatClampNeg + n.toNatClampNeg ≤ n1 ∧ ∀ i, i < n.toNatClampNeg → fits ty (.int (f (sp.toNatClampNeg + i))) = true
noncomputable def cpk {α : Type} (ty : FieldType) (sp dp n : Int32) (n0 n1 : Nat) (f : Nat → Int32) (k : Option α) : Option α := @ite (Option α) (cpOK ty sp dp n n0 n1 f) (Classical.propDecidable _) k none
theorem cpk_some {α : Type} {ty : FieldType} {sp dp n : Int32} {n0 n1 : Nat} {f : Nat → Int32} {k : Option α} {r : α} (h : cpk ty sp dp n n0 n1 f k = some r) : cpOK ty sp dp n n0 n1 f ∧ k = some r := by
  unfold cpk at h
  split at h
  · rename_i q; exact ⟨q, h⟩
  · cases h
theorem cpk_ok {α : Type} {ty : FieldType} {sp dp n : Int32} {n0 n1 : Nat} {f : Nat → Int32} {k : Option α} (h : cpOK ty sp dp n n0 n1 f) : cpk ty sp dp n n0 n1 f k = k := if_pos h
theorem cp_nat : Cond.native arraycopyName ∈ TB := tb_in (List.mem_append_right _ (List.mem_of_getElem? (i := 547) (by decide +kernel))) (by decide +kernel)
theorem cp_st : Cond.static arraycopyName ∈ TB := tb_in (List.mem_append_right _ (List.mem_of_getElem? (i := 546) (by decide +kernel))) (by decide +kernel)
section BC
variable {p : Program} {l : Launch} {e : Env} {R : Room} {s : State} {m : MethodId} {args : Array Value} {below : List Frame} {meth : Method} {c : Code} {H : Heap} {locs : List Loc} {cells slots : Nat} {Q : State → Prop}
variable {D : va_G} {k : Nat → ClassId} {Z : ZT} {cc : ByteArray} {mL : Nat} {ret : Option FieldType} {own : String} {A : Nat → Prop} {ws ws' : va_W} {pc a : Nat} {ls : Array Slot} {rest : List Value}
theorem r_copy {index a0 : Nat} {cA : ClassId} {n0 n1 : Nat} {f g : Nat → Int32} {ty : FieldType} {sp dp n : Int32} (X : Cx p s m meth c D k Z A cc mL ret own) (G : Wo D A s.heap ws H locs) (q0 q1 t0 : Nat) (ha0 : ws[q0]? = some (a0, .inl (cA, n0, .inl f))) (ha1 : ws[q1]? = some (a, .inl (cA, n1, .inl g))) (ht : (TY k)[t0]? = some (cA, ty)) (hprim : refKind ty = false) (hok : cpOK ty sp dp n n0 n1 f)
    (hw : ws.set q1 (a, .inl (cA, n1, .inl (va_cpy f g sp.toNatClampNeg dp.toNatClampNeg n.toNatClampNeg))) = ws') (hlink : (Cond.methodLink own index arraycopyName).before args s = true) (hframes : 1 ≤ R.frames) (hlocals : (rest.map fun v => v.category).sum + (nativeFrameWords "java/lang/System" "arraycopy" 5 + 11) ≤ R.locals) (hdg : decode cc pc = .ok (.invokestatic index, 3)) (hsz : ls.size = mL)
    (kk : ∀ (H1 : Heap) (locs1 : List Loc), Wo D A s.heap ws' H1 locs1 → W p l e R s m args below meth c H1 locs1 cells slots Q (F0 m (pc + 3) ls rest)) : W p l e R s m args below meth c H locs cells slots Q (F0 m pc ls (.int n :: .int dp :: .ref a :: .int sp :: .ref a0 :: rest)) := by
  subst hw
  obtain ⟨h1, h2, h3, h4, h5, h6⟩ := hok
  have hE := X.2.2.2.2.2.2.1
  exact va_copyi X.1 X.2.1 (X.2.2.2.2.1.trans hsz.symm) X.2.2.2.2.2.1 hlink (hE.use cp_nat) (hE.use cp_st) (hE.use in_J10) X.2.2.2.2.2.2.2.1 G.1 G.2.1 G.2.2 q0 q1 t0 t0 ha0 ha1 ht ht hprim h1 h2 h3 h4 h5 h6 hframes hlocals hdg (fun H1 locs1 g1 g2 g3 => kk H1 locs1 ⟨g1, g2, g3⟩)
end BC
theorem lk_d {x : Int32} (h0 : ¬ x = 0) (h1 : ¬ x = 1) (dflt : Int) (a b : Int) : Op.lookupswitch.offset [(0, a), (1, b)] dflt x.toInt = dflt := by
  have e0 : ¬ x.toInt = 0 := fun h => h0 (Int32.toInt_inj.mp (by rw [h]; rfl))
  have e1 : ¬ x.toInt = 1 := fun h => h1 (Int32.toInt_inj.mp (by rw [h]; rfl))
  simp [Op.lookupswitch.offset, e0, e1, Ne.symm e0, Ne.symm e1]
theorem ac_link_X9_303 : Cond.methodLink RX9 303 arraycopyName ∈ TB := tb_in (List.mem_append_right _ (List.mem_of_getElem? (i := 545) (by decide +kernel))) (by decide +kernel)
theorem ac_link_X5_19 : Cond.methodLink RX5 19 arraycopyName ∈ TB := tb_in (List.mem_append_right _ (List.mem_of_getElem? (i := 883) (by decide +kernel))) (by decide +kernel)
theorem mm_X9_298 : Cond.methodLink RX9 298 Lib.Math.min.name ∈ TB := tb_in (List.mem_append_right _ (List.mem_of_getElem? (i := 542) (by decide +kernel))) (by decide +kernel)
theorem mm_st : Cond.static Lib.Math.min.name ∈ TB := tb_in (List.mem_append_right _ (List.mem_of_getElem? (i := 543) (by decide +kernel))) (by decide +kernel)
theorem mm_co : Cond.code Lib.Math.min.name Lib.Math.min.code 2 (some .int) ∈ TB := tb_in (List.mem_append_right _ (List.mem_of_getElem? (i := 544) (by decide +kernel))) (by decide +kernel)
theorem mm_X0_48 : Cond.methodLink RX0 48 Lib.Math.min.name ∈ TB := tb_in (List.mem_append_right _ (List.mem_of_getElem? (i := 599) (by decide +kernel))) (by decide +kernel)
section BN
variable {p : Program} {l : Launch} {e : Env} {R : Room} {s : State} {m : MethodId} {args : Array Value} {below : List Frame} {meth : Method} {c : Code} {H : Heap} {locs : List Loc} {cells slots : Nat} {Q : State → Prop}
variable {D : va_G} {k : Nat → ClassId} {Z : ZT} {cc : ByteArray} {mL : Nat} {ret : Option FieldType} {own : String} {A : Nat → Prop} {pc : Nat} {ls : Array Slot} {rest : List Value}
theorem r_min {index : Nat} {x y : Int32} (X : Cx p s m meth c D k Z A cc mL ret own) (hlink : Cond.methodLink own index Lib.Math.min.name ∈ TB) (hframes : 1 ≤ R.frames) (hlocals : (rest.map fun v => v.category).sum + 13 ≤ R.locals) (hc : cells ≤ R.cells) (hs : slots ≤ R.slots) (hdg : decode cc pc = .ok (.invokestatic index, 3)) (hsz : ls.size = mL)
    (kk : W p l e R s m args below meth c H locs cells slots Q (F0 m (pc + 3) ls (.int (if y < x then y else x) :: rest))) : W p l e R s m args below meth c H locs cells slots Q (F0 m pc ls (.int y :: .int x :: rest)) := by
  have hE := X.2.2.2.2.2.2.1
  exact va_mmin X.1 X.2.1 (X.2.2.2.2.1.trans hsz.symm) X.2.2.2.2.2.1 (hE.use hlink) (hE.use mm_st) (hE.use in_J9) (hE.use mm_co) hframes hlocals hc hs hdg kk
end BN
theorem at_sub {ws wc : va_W} {is : List Nat} (hC : is.map (fun i => ws[i]?) = wc.map some) {j k : Nat} {q : Nat × va_E} (hj : is[j]? = some k) (h : ws[k]? = some q) : wc[j]? = some q := by
  have h1 : (is.map (fun i => ws[i]?))[j]? = some (some q) := by rw [List.getElem?_map, hj, ← h]; rfl
  rw [hC, List.getElem?_map] at h1
  cases hw : wc[j]? with
  | none => rw [hw] at h1; cases h1
  | some x => rw [hw] at h1; exact Option.some.inj h1
theorem pat_ok {A : Nat → Prop} {D : va_G} {ws ws' wc wc' wr : va_W} {H H1 : Heap} (hP : va_P D vwCl ws H) (hD : va_D A ws) (is ir : List Nat) (n : Nat) (hC : is.map (fun i => ws[i]?) = wc.map some) (hC' : is.map (fun i => ws'[i]?) = wc'.map some) (hR : ir.map (fun i => ws[i]?) = wr.map some) (hR' : ir.map (fun i => ws'[i]?) = wr.map some) (hl : ws'.length = n) (hcov : ∀ k, k < n → k ∈ is ∨ k ∈ ir) (hdis : ∀ i ∈ ir, i ∉ is) (ha : wc'.map Prod.fst = wc.map Prod.fst)
    (hk : ∀ q : Nat, q < H.size → ¬ wA wc q → H1[q]? = H[q]?) (hP1 : va_P D vwCl wc' H1) : va_P D vwCl ws' H1 ∧ va_D A ws' := by
  have main : ∀ (k : Nat) (q : Nat × va_E), ws'[k]? = some q → (∃ j : Nat, is[j]? = some k ∧ wc'[j]? = some q) ∨ (k ∉ is ∧ ws[k]? = some q) := by
    intro k q hq
    have hkn : k < n := by rw [← hl]; exact (List.getElem?_eq_some_iff.mp hq).1
    by_cases hki : k ∈ is
    · obtain ⟨j, hj⟩ := List.getElem?_of_mem hki
      exact Or.inl ⟨j, hj, at_sub hC' hj hq⟩
    · rcases hcov k hkn with h | h
      · exact absurd h hki
      · obtain ⟨j, hj⟩ := List.getElem?_of_mem h
        have h1 := at_sub hR' hj hq
        obtain ⟨i, h2, h3⟩ := sub_at hR h1
        rw [hj] at h2
        cases h2
        exact Or.inr ⟨hki, h3⟩
  have adr : ∀ (k : Nat) (q : Nat × va_E), ws'[k]? = some q → ∃ q0 : Nat × va_E, ws[k]? = some q0 ∧ q0.1 = q.1 := by
    intro k q hq
    rcases main k q hq with ⟨j, h1, h2⟩ | ⟨-, h2⟩
    · have h3 : (wc.map Prod.fst)[j]? = some q.1 := by rw [← ha, List.getElem?_map, h2]; rfl
      rw [List.getElem?_map] at h3
      cases h4 : wc[j]? with
      | none => rw [h4] at h3; cases h3
      | some q0 =>
        rw [h4] at h3
        obtain ⟨i, h5, h6⟩ := sub_at hC h4
        rw [h1] at h5
        cases h5
        exact ⟨q0, h6, Option.some.inj h3⟩
    · exact ⟨q, h2, rfl⟩
  refine ⟨fun k q hq => ?_, ⟨fun i j x y hi hj hxy => ?_, fun k q hq => ?_⟩⟩
  · rcases main k q hq with ⟨j, h1, h2⟩ | ⟨h1, h2⟩
    · exact hP1 j q h2
    · have h3 := hP k q h2
      refine h3.kept (hk q.1 h3.lt (fun z => ?_))
      obtain ⟨j, q1, h4, h5⟩ := wA_ex z
      obtain ⟨i, h6, h7⟩ := sub_at hC h4
      have h8 := hD.1 i k q1 q h7 h2 h5
      subst h8
      exact h1 (List.mem_of_getElem? h6)
  · obtain ⟨x0, h1, h2⟩ := adr i x hi
    obtain ⟨y0, h3, h4⟩ := adr j y hj
    exact hD.1 i j x0 y0 h1 h3 (h2.trans (hxy.trans h4.symm))
  · obtain ⟨q0, h1, h2⟩ := adr k q hq
    rw [← h2]
    exact hD.2 k q0 h1
section BP
variable {p : Program} {l : Launch} {e : Env} {R : Room} {s : State} {m : MethodId} {args : Array Value} {below : List Frame} {meth : Method} {c : Code} {H : Heap} {locs : List Loc} {cells slots : Nat} {Q : State → Prop}
variable {D : va_G} {A : Nat → Prop} {ws ws' wc wc' wr : va_W} {pc : Nat} {ls : Array Slot} {rest As st0 st1 : List Value} {ov : Option Value}
theorem p_N (hr : va_Run p l e R s m args below meth c H locs cells slots 0 0 (F0 m pc ls st0) rest (Qm D ov wc wc' (As.toArray)) (wA wc)) (hst : ov.toList ++ rest = st1) (G : Wo D A s.heap ws H locs) (is ir : List Nat) (n : Nat) (hC : is.map (fun i => ws[i]?) = wc.map some) (hC' : is.map (fun i => ws'[i]?) = wc'.map some) (hR : ir.map (fun i => ws[i]?) = wr.map some) (hR' : ir.map (fun i => ws'[i]?) = wr.map some) (hl : ws'.length = n) (hcov : ∀ k, k < n → k ∈ is ∨ k ∈ ir) (hdis : ∀ i ∈ ir, i ∉ is) (ha : wc'.map Prod.fst = wc.map Prod.fst)
    (kk : ∀ (H1 : Heap) (locs1 : List Loc), Wo D A s.heap ws' H1 locs1 → W p l e R s m args below meth c H1 locs1 cells slots Q (F0 m (pc + 3) ls st1)) : W p l e R s m args below meth c H locs cells slots Q (F0 m pc ls st0) := by
  have hF : ∀ q, wA wc q → A q := fun q h => by
    obtain ⟨j, q1, h4, h5⟩ := wA_ex h
    obtain ⟨i, h6, h7⟩ := sub_at hC h4
    rw [← h5]
    exact G.2.1.2 i q1 h7
  intro T hT X
  obtain ⟨v, st₀, t, T', L, h0, X', hL, e1, e2, ⟨hv, hp, hz, hk⟩, st⟩ := hr T hT X
  cases hv
  subst hst
  rw [h0] at hz hk
  rw [← e1] at hz hp
  have hk : ∀ q : Nat, q < H.size → ¬ wA wc q → T'.heap[q]? = H[q]? := fun q h1 h2 => by rw [e1]; exact hk q h1 h2
  obtain ⟨g1, g2⟩ := pat_ok G.1 G.2.1 is ir n hC hC' hR hR' hl hcov hdis ha hk hp
  obtain ⟨t2, a1, b1⟩ := kk T'.heap (locs ++ L) ⟨g1, g2, Nat.le_trans G.2.2.1 hz, fun q h1 h2 => by rw [hk q (Nat.lt_of_lt_of_le h1 G.2.2.1) (fun z => h2 (hF q z))]; exact G.2.2.2.1 q h1 h2, fun q hq => by
      rcases List.mem_append.mp hq with h | h
      · exact G.2.2.2.2 q h
      · exact hF _ (hL q h)⟩ T' rfl X'
  exact ⟨t2, st t2 a1, b1⟩
end BP
