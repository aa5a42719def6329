theorem va_D.of {A : Nat → Prop} {ws : va_W} (h1 : (ws.map Prod.fst).Nodup) (h2 : ∀ q ∈ ws, A q.1) : va_D A ws := by
  refine ⟨fun i j p q hi hj hpq => ?_, fun k q hk => h2 q (List.mem_of_getElem? hk)⟩
  have e1 : (ws.map Prod.fst)[i]? = some p.1 := by rw [List.getElem?_map, hi]; rfl
  have e2 : (ws.map Prod.fst)[j]? = some p.1 := by rw [List.getElem?_map, hj, hpq]; rfl
  obtain ⟨l1, g1⟩ := List.getElem?_eq_some_iff.mp e1
  obtain ⟨l2, g2⟩ := List.getElem?_eq_some_iff.mp e2
  have h3 := List.pairwise_iff_getElem.mp h1
  rcases Nat.lt_trichotomy i j with z | z | z
  · exact absurd (g1.trans g2.symm) (h3 i j l1 l2 z)
  · exact z
  · exact absurd (g2.trans g1.symm) (h3 j i l2 l1 z)
theorem va_D.nodup {A : Nat → Prop} {ws : va_W} (h : va_D A ws) : (ws.map Prod.fst).Nodup := by
  refine List.pairwise_iff_getElem.mpr (fun i j hi hj hij hc => ?_)
  rw [List.length_map] at hi hj
  have e1 : ws[i]? = some ws[i] := List.getElem?_eq_getElem hi
  have e2 : ws[j]? = some ws[j] := List.getElem?_eq_getElem hj
  rw [List.getElem_map, List.getElem_map] at hc
  have := h.1 i j _ _ e1 e2 hc
  omega
theorem Wo.perm {D : va_G} {A : Nat → Prop} {H0 H : Heap} {ws ws' : va_W} {locs : List Loc} (G : Wo D A H0 ws H locs) (hp : ws.Perm ws') : Wo D A H0 ws' H locs := by
  refine ⟨fun k q hk => ?_, va_D.of ((hp.map Prod.fst).nodup_iff.mp G.2.1.nodup) (fun q hq => ?_), G.2.2⟩
  · obtain ⟨i, hi⟩ := List.getElem?_of_mem (hp.mem_iff.mpr (List.mem_of_getElem? hk))
    exact G.1 i q hi
  · obtain ⟨i, hi⟩ := List.getElem?_of_mem (hp.mem_iff.mpr hq)
    exact G.2.1.2 i q hi
theorem pat_adr {ws ws' wc wc' wr : va_W} (is ir : List Nat) (n : Nat) (hC : is.map (fun i => ws[i]?) = wc.map some) (hC' : is.map (fun i => ws'[i]?) = wc'.map some) (hR : ir.map (fun i => ws[i]?) = wr.map some) (hR' : ir.map (fun i => ws'[i]?) = wr.map some) (hl : ws'.length = n) (hcov : ∀ k, k < n → k ∈ is ∨ k ∈ ir) (ha : wc'.map Prod.fst = wc.map Prod.fst) : ∀ q ∈ ws', ∃ q0 ∈ ws, q0.1 = q.1 := by
  intro q hq
  obtain ⟨k, hk⟩ := List.getElem?_of_mem hq
  have hkn : k < n := by rw [← hl]; exact (List.getElem?_eq_some_iff.mp hk).1
  rcases hcov k hkn with h | h
  · obtain ⟨j, hj⟩ := List.getElem?_of_mem h
    have h2 := at_sub hC' hj hk
    have h3 : (wc.map Prod.fst)[j]? = some q.1 := by rw [← ha, List.getElem?_map, h2]; rfl
    rw [List.getElem?_map] at h3
    cases h4 : wc[j]? with
    | none => rw [h4] at h3; cases h3
    | some q0 =>
      rw [h4] at h3
      obtain ⟨i, h5, h6⟩ := sub_at hC h4
      exact ⟨q0, List.mem_of_getElem? h6, Option.some.inj h3⟩
  · obtain ⟨j, hj⟩ := List.getElem?_of_mem h
    have h1 := at_sub hR' hj hk
    obtain ⟨i, h2, h3⟩ := sub_at hR h1
    exact ⟨q, List.mem_of_getElem? h3, rfl⟩
theorem va_P.left {D : va_G} {w R : va_W} {H : Heap} (h : va_P D vwCl (w ++ R) H) : va_P D vwCl w H := fun k q hk => by
  obtain ⟨i, hi⟩ := List.getElem?_of_mem (List.mem_append_left R (List.mem_of_getElem? hk))
  exact h i q hi
theorem va_P.right {D : va_G} {w R : va_W} {H : Heap} (h : va_P D vwCl (w ++ R) H) : va_P D vwCl R H := fun k q hk => by
  obtain ⟨i, hi⟩ := List.getElem?_of_mem (List.mem_append_right w (List.mem_of_getElem? hk))
  exact h i q hi
theorem va_D.left {A : Nat → Prop} {w R : va_W} (h : va_D A (w ++ R)) : va_D A w := va_D.of (by have := h.nodup; rw [List.map_append] at this; exact (List.nodup_append.mp this).1) (fun q hq => by
  obtain ⟨i, hi⟩ := List.getElem?_of_mem (List.mem_append_left R hq)
  exact h.2 i q hi)
theorem va_D.right {A : Nat → Prop} {w R : va_W} (h : va_D A (w ++ R)) : va_D A R := va_D.of (by have := h.nodup; rw [List.map_append] at this; exact (List.nodup_append.mp this).2.1) (fun q hq => by
  obtain ⟨i, hi⟩ := List.getElem?_of_mem (List.mem_append_right w hq)
  exact h.2 i q hi)
theorem va_D.apart {A : Nat → Prop} {w R : va_W} (h : va_D A (w ++ R)) : ∀ p ∈ w, ∀ q ∈ R, p.1 ≠ q.1 := by
  have := h.nodup
  rw [List.map_append] at this
  intro p hp q hq
  exact (List.nodup_append.mp this).2.2 _ (List.mem_map.mpr ⟨p, hp, rfl⟩) _ (List.mem_map.mpr ⟨q, hq, rfl⟩)
theorem sub_left {wa R wc : va_W} {is : List Nat} (hC : is.map (fun i => wa[i]?) = wc.map some) : is.map (fun i => (wa ++ R)[i]?) = wc.map some := by
  rw [← hC]
  apply List.map_congr_left
  intro i hi
  obtain ⟨j, hj⟩ := List.getElem?_of_mem hi
  have h1 : (is.map (fun i => wa[i]?))[j]? = some wa[i]? := by rw [List.getElem?_map, hj]; rfl
  rw [hC, List.getElem?_map] at h1
  cases hw : wc[j]? with
  | none => rw [hw] at h1; cases h1
  | some q =>
    rw [hw] at h1
    have h2 : wa[i]? = some q := (Option.some.inj h1).symm
    have h3 := (List.getElem?_eq_some_iff.mp h2).1
    rw [List.getElem?_append_left h3]
theorem patR_ok {A : Nat → Prop} {D : va_G} {ws ws' wc wc' wr R : va_W} {H H1 : Heap} (hP : va_P D vwCl (ws ++ R) H) (hD : va_D A (ws ++ R)) (is ir : List Nat) (n : Nat) (hC : is.map (fun i => ws[i]?) = wc.map some) (hC' : is.map (fun i => ws'[i]?) = wc'.map some) (hR : ir.map (fun i => ws[i]?) = wr.map some) (hR' : ir.map (fun i => ws'[i]?) = wr.map some) (hl : ws'.length = n) (hcov : ∀ k, k < n → k ∈ is ∨ k ∈ ir) (hdis : ∀ i ∈ ir, i ∉ is) (ha : wc'.map Prod.fst = wc.map Prod.fst)
    (hk : ∀ q : Nat, q < H.size → ¬ wA wc q → H1[q]? = H[q]?) (hP1 : va_P D vwCl wc' H1) : va_P D vwCl (ws' ++ R) H1 ∧ va_D A (ws' ++ R) := by
  obtain ⟨g1, g2⟩ := pat_ok hP.left hD.left is ir n hC hC' hR hR' hl hcov hdis ha hk hP1
  have hap := hD.apart
  refine ⟨g1.app (fun k q hq => ?_), g2.app hD.right (fun i j p q hi hj => ?_)⟩
  · have h3 := hP.right k q hq
    refine h3.kept (hk q.1 h3.lt (fun z => ?_))
    obtain ⟨j, q1, h4, h5⟩ := wA_ex z
    obtain ⟨i, h6, h7⟩ := sub_at hC h4
    exact hap q1 (List.mem_of_getElem? h7) q (List.mem_of_getElem? hq) h5
  · obtain ⟨q0, h1, h2⟩ := pat_adr is ir n hC hC' hR hR' hl hcov ha p (List.mem_of_getElem? hi)
    rw [← h2]
    exact hap q0 h1 q (List.mem_of_getElem? hj)
section BR
variable {p : Program} {l : Launch} {e : Env} {R : Room} {s : State} {m : MethodId} {args : Array Value} {below : List Frame} {meth : Method} {c : Code} {H : Heap} {locs : List Loc} {cells slots : Nat} {Q : State → Prop}
variable {D : va_G} {A : Nat → Prop} {ws ws' wc wc' wr RW : va_W} {pc : Nat} {ls : Array Slot} {rest As st0 st1 : List Value} {ov : Option Value}
theorem p_NR (hr : va_Run p l e R s m args below meth c H locs cells slots 0 0 (F0 m pc ls st0) rest (Qm D ov wc wc' (As.toArray)) (wA wc)) (hst : ov.toList ++ rest = st1) (G : Wo D A s.heap (ws ++ RW) H locs) (is ir : List Nat) (n : Nat) (hC : is.map (fun i => ws[i]?) = wc.map some) (hC' : is.map (fun i => ws'[i]?) = wc'.map some) (hR : ir.map (fun i => ws[i]?) = wr.map some) (hR' : ir.map (fun i => ws'[i]?) = wr.map some) (hl : ws'.length = n) (hcov : ∀ k, k < n → k ∈ is ∨ k ∈ ir) (hdis : ∀ i ∈ ir, i ∉ is) (ha : wc'.map Prod.fst = wc.map Prod.fst)
    (kk : ∀ (H1 : Heap) (locs1 : List Loc), Wo D A s.heap (ws' ++ RW) H1 locs1 → W p l e R s m args below meth c H1 locs1 cells slots Q (F0 m (pc + 3) ls st1)) : W p l e R s m args below meth c H locs cells slots Q (F0 m pc ls st0) := by
  have hF : ∀ q, wA wc q → A q := fun q h => by
    obtain ⟨j, q1, h4, h5⟩ := wA_ex h
    obtain ⟨i, h6, h7⟩ := sub_at (sub_left (R := RW) hC) h4
    rw [← h5]
    exact G.2.1.2 i q1 h7
  intro T hT X
  obtain ⟨v, st₀, t, T', L, h0, X', hL, e1, e2, ⟨hv, hp, hz, hk⟩, st⟩ := hr T hT X
  cases hv
  subst hst
  rw [h0] at hz hk
  rw [← e1] at hz hp
  have hk : ∀ q : Nat, q < H.size → ¬ wA wc q → T'.heap[q]? = H[q]? := fun q h1 h2 => by rw [e1]; exact hk q h1 h2
  obtain ⟨g1, g2⟩ := patR_ok G.1 G.2.1 is ir n hC hC' hR hR' hl hcov hdis ha hk hp
  obtain ⟨t2, a1, b1⟩ := kk T'.heap (locs ++ L) ⟨g1, g2, Nat.le_trans G.2.2.1 hz, fun q h1 h2 => by rw [hk q (Nat.lt_of_lt_of_le h1 G.2.2.1) (fun z => h2 (hF q z))]; exact G.2.2.2.1 q h1 h2, fun q hq => by
      rcases List.mem_append.mp hq with h | h
      · exact G.2.2.2.2 q h
      · exact hF _ (hL q h)⟩ T' rfl X'
  exact ⟨t2, st t2 a1, b1⟩
theorem p_CR {mc ms : Nat} {Y : va_W → Prop} (hr : va_Run p l e R s m args below meth c H locs cells slots mc ms (F0 m pc ls st0) rest (QnN D ov wc H.size Y (As.toArray)) (va_A wc H.size)) (hst : ov.toList ++ rest = st1) (G : Wo D A s.heap (ws ++ RW) H locs) (hA : ∀ q, s.heap.size ≤ q → A q) (isC isR : List Nat) (hC : isC.map (fun i => ws[i]?) = wc.map some) (hR : isR.map (fun i => ws[i]?) = wr.map some) (hn : va_nd isR = true) (hdis : ∀ i ∈ isR, i ∉ isC)
    (kk : ∀ (w1 : va_W) (H1 : Heap) (locs1 : List Loc), Y w1 → Wo D A s.heap ((wr ++ w1) ++ RW) H1 locs1 → W p l e R s m args below meth c H1 locs1 (cells + mc) (slots + ms) Q (F0 m (pc + 3) ls st1)) : W p l e R s m args below meth c H locs cells slots Q (F0 m pc ls st0) := by
  have hF := va_free G.2.1 G.2.2 hA isC (sub_left (R := RW) hC)
  intro T hT X
  obtain ⟨v, st₀, t, T', L, h0, X', hL, e1, e2, ⟨hv, ⟨w1, hY, hp, hd⟩, hz, hk⟩, st⟩ := hr T hT X
  cases hv
  subst hst
  rw [h0] at hz hk
  rw [← e1] at hz hp
  have hk : ∀ q : Nat, q < H.size → ¬ va_A wc H.size q → T'.heap[q]? = H[q]? := fun q h1 h2 => by rw [e1]; exact hk q h1 h2
  obtain ⟨g1, g2⟩ := va_join G.1.left G.2.1.left isC isR hC hR hn hdis hk hF hp hd
  have hap := G.2.1.apart
  have hout : ∀ (k : Nat) (q : Nat × va_E), RW[k]? = some q → ¬ va_A wc H.size q.1 := fun k q hq z => by
    rcases z with ⟨j, e0, h4⟩ | z
    · obtain ⟨i, h6, h7⟩ := sub_at hC h4
      exact hap _ (List.mem_of_getElem? h7) q (List.mem_of_getElem? hq) rfl
    · have := (G.1.right k q hq).lt
      omega
  have g3 : va_P D vwCl RW T'.heap := fun k q hq => (G.1.right k q hq).kept (hk q.1 (G.1.right k q hq).lt (hout k q hq))
  have g4 : va_D A ((wr ++ w1) ++ RW) := g2.app G.2.1.right (fun i j x y hx hy hxy => by
    rcases List.mem_append.mp (List.mem_of_getElem? hx) with h | h
    · obtain ⟨i2, h2⟩ := List.getElem?_of_mem h
      obtain ⟨i3, h3, h4⟩ := sub_at hR h2
      exact hap x (List.mem_of_getElem? h4) y (List.mem_of_getElem? hy) hxy
    · obtain ⟨i2, h2⟩ := List.getElem?_of_mem h
      exact hout j y hy (by rw [← hxy]; exact hd.2 i2 x h2))
  obtain ⟨t2, a1, b1⟩ := kk w1 T'.heap (locs ++ L) hY ⟨g1.app g3, g4, Nat.le_trans G.2.2.1 hz, fun q h1 h2 => by rw [hk q (Nat.lt_of_lt_of_le h1 G.2.2.1) (fun z => h2 (hF q z))]; exact G.2.2.2.1 q h1 h2, fun q hq => by
      rcases List.mem_append.mp hq with h | h
      · exact G.2.2.2.2 q h
      · exact hF _ (hL q h)⟩ T' rfl X'
  exact ⟨t2, st t2 a1, b1⟩
end BR
