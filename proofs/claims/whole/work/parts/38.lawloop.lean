def lw_P (b : Addr) (xs : List Int32) (args : Array Value) (s : State) : Prop := args = #[.ref b] ∧ s.IntsAt b xs ∧ xs.length ≤ 3072 ∧ (Jvm.Cond.and given_1 narrow_1).before args s = true
def lw_Q (_ : Array Value) (s : State) (o : Outcome) (t : State) : Prop := o = .returned (some (.int 1)) ∧ Framed s o t [] 600000 7302250
def lw_Z (below : List Frame) (a : Array Value) (s : State) : State → Prop := fun t => ∃ o, t.status = .running ∧ Ended t below o ∧ lw_Q a s o t
/-- the law's own end, with 1 on the stack, nothing written that was there before, its room as the claim has it -/
theorem lw_ret {p : Program} {l : Launch} {e : Env} {s : State} {m : MethodId} {below : List Frame} {meth : Method} {c : Code} {b : Nat} (hx : p.tables.exec = Jvm.exec) (hb : c.code = code) (hr : meth.sig.returnType = ret) (hlocks : meth.locks = false) {pc : Nat} {H : Heap} {ls : Array Slot} (hdg : decode code pc = .ok (.ireturn, 1)) : W p l e room_1 s m #[Value.ref b] below meth c H [] 600000 7302250 (lw_Z below #[Value.ref b] s) (F0 m pc ls [.int 1]) := by
  intro T hT X
  obtain ⟨fs, hret, hrun, hended, hW, hframe⟩ := X.leave (v := some (.int 1)) (hlocks := hlocks) (fun h => by rw [hr] at h; cases h)
  have hmeth' : T.vm.method? m = some meth := X.method'
  refine ⟨T.setFrames fs, ?_, .returned (some (.int 1)), hrun, hended, rfl, ⟨_, rfl⟩, hW, hframe⟩
  jvm_step X.here [X.here.top, hx, hb, hdg, hmeth', hr, ret, narrow_b1]
  (try refine ⟨rfl, ?_⟩); (try refine ⟨rfl, ?_⟩)
  first | (intro acts; rw [hret _ acts rfl rfl rfl]) | rw [hret _ _ rfl rfl rfl]
  exact Steps.refl _
/-- what holds at the law's entry: the machine, the code, the tables' words (any of lw_tbl by 'hts w (by decide +kernel)'), the script of L ints xs at the cell b, what the Statement gives of the start (any of its parts by flat_of_before) -/
def lw_At (p : Program) (s : State) (m : MethodId) (meth : Method) (c : Code) (b L : Nat) (xs : Nat → Int32) : Prop :=
  p.tables.exec = Jvm.exec ∧ c.code = code ∧ meth.sig.returnType = ret ∧ c.maxLocals = 4 ∧ s.vm.findClass R_law = some m.cls ∧ (∀ w ∈ lw_tbl, w.before #[Value.ref b] s = true) ∧ va_X b L xs s s.heap ∧ b < s.heap.size ∧ meth.locks = false ∧ (Jvm.Cond.and given_1 narrow_1).before #[Value.ref b] s = true
theorem lj_of {j L : Nat} (hL : L ≤ 3072) (hj : 6 * j ≤ L) (h : ¬ (Int32.ofNat L - 6 < nI (6 * j))) : 6 * j + 6 ≤ L := by
  have h1 := Int32.not_lt.mp h
  rw [Int32.le_iff_toInt_le, nI_toInt (by omega), show Int32.ofNat L - 6 = nI L - nI 6 from rfl, pk_sub_toInt (by omega) (by omega)] at h1
  omega
def Bs (Rel : HWS → MoT → Prop) : Prop := B_feed Rel ∧ B_end Rel ∧ B_text Rel ∧ B_fault Rel ∧ B_ticks Rel ∧ B_watch Rel ∧ B_free Rel ∧ B_within Rel ∧ B_undo Rel ∧ B_count Rel ∧ B_worker Rel ∧ B_step Rel ∧ B_holder Rel ∧ B_pipe Rel ∧ B_messages Rel ∧ B_waits Rel ∧ B_way Rel ∧ B_ring Rel ∧ B_stall Rel ∧ B_freed Rel ∧ B_later Rel ∧ B_ends Rel ∧ B_told Rel ∧ B_fewest Rel ∧ B_image Rel ∧ B_again Rel
set_option maxHeartbeats 4000000 in
set_option maxRecDepth 100000 in
theorem law_loop {p : Program} {l : Launch} {e : Env} {s : State} {m : MethodId} {below : List Frame} {meth : Method} {c : Code} {D : va_G} {k : Nat → ClassId} {t : Nat → Nat} {b L : Nat} {xs : Nat → Int32} {Rel : HWS → MoT → Prop} (hBs : Bs Rel) {qx qm : Nat} {ad aHS aHK : Nat → Nat → Nat} (X : Cx p s m meth c D k (SZ t) (fun q : Nat => s.heap.size ≤ q) code 4 (some .boolean) R_law) (hX : va_X b L xs s s.heap) (hbl : b < s.heap.size) (hL : L ≤ 3072) :
    ∀ (n j : Nat) (S : HWS) (MO : MoT) (im : Nat → Option Nat) (ia : Nat → AIT) (H : Heap) (locs : List Loc) (ls : Array Slot), 6 * j ≤ L → L + 1 ≤ 6 * j + n → Rel S MO → (∀ i, i < 3 → (im i).isSome = (S.2.2.2.2.2.2.2.2.2.2.2.2.2.2.2 i).isSome) → Wo D (fun q : Nat => s.heap.size ≤ q) s.heap (wL k qx qm ad aHS aHK im ia S MO) H locs → lv_has ls 4 [(0, .ref b), (1, .ref qx), (2, .ref qm), (3, .int (nI (6 * j)))] → W p l e room_1 s m #[Value.ref b] below meth c H locs (200 + 20 * j) (20000 + 1395 * j) (lw_Z below #[Value.ref b] s) (F0 m 18 ls []) := by
  have hx := X.1
  have hb := X.2.1
  have hr := X.2.2.1
  have hlocks := X.2.2.2.1
  have hbA : ¬ s.heap.size ≤ b := Nat.not_le.mpr hbl
  obtain ⟨b0, b1, b2, b3, b4, b5, b6, b7, b8, b9, b10, b11, b12, b13, b14, b15, b16, b17, b18, b19, b20, b21, b22, b23, b24, b25⟩ := hBs
  intro n
  induction n with
  | zero =>
    intro j S MO im ia H locs ls h1 h2
    exact absurd h2 (by omega)
  | succ n ih =>
    intro j S MO im ia H locs ls hjL hn hR him G hl
    refine lv_iload_n hx hb dL_law_18 rfl (lv_at hl 3 rfl) ?_
    refine lv_aload_n hx hb dL_law_19 rfl (lv_at hl 0 rfl) ?_
    refine va_slen hx hb hX hbl hbA G.2.2 dL_law_20 ?_
    refine lv_bipush (v := 6) hx hb dL_law_21 (by decide) ?_
    refine lv_isub hx hb dL_law_23 ?_
    refine lv_icmp_gt (tgt := 930) hx hb dL_law_24 (by decide) (fun _ => ?_) (fun c1 => ?_)
    · refine lv_iconst (v := 1) hx hb dL_law_930 (by decide) ?_
      refine va_forget (fun q hq => G.2.2.2.2 q hq) ?_
      refine W.widen (k := 600000) (n := 7302250) (by omega) (by omega) ?_
      exact lw_ret hx hb hr hlocks dL_law_931
    · have hj : 6 * j + 6 ≤ L := lj_of hL hjL c1
      have kk : Kont p l e s m b below meth c D k (lw_Z below #[Value.ref b] s) Rel qx qm ad aHS aHK j (200 + 20 * j + 20) (20000 + 1395 * j + 1395) := by
        intro S MO im ia H locs ls hR him G hl
        refine lv_iinc (v := nI (6 * (j + 1))) (lv' := [(3, .int (nI (6 * (j + 1)))), (0, .ref b), (1, .ref qx), (2, .ref qm)]) hx hb dL_law_924 hl (k := 3) rfl (show nI (6 * j) + nI 6 = nI (6 * (j + 1)) by rw [nI_add]; rfl) (by decide) rfl (fun ls hl => ?_)
        refine lv_goto (tgt := 18) hx hb dL_law_927 (by decide) ?_
        refine W.cs (cells' := 200 + 20 * (j + 1)) (slots' := 20000 + 1395 * (j + 1)) (by omega) (by omega) ?_
        exact ih (j + 1) S MO im ia H locs ls (by omega) (by omega) hR him G (lv_sub hl [1, 2, 3, 0] rfl)
      refine lv_aload_n hx hb dL_law_27 rfl (lv_at hl 0 rfl) ?_
      refine lv_iload_n hx hb dL_law_28 rfl (lv_at hl 3 rfl) ?_
      refine va_sld hx hb hX hbl hbA G.2.2 (li0 hj hL) dL_law_29 ?_
      refine lv_bipush (v := 31) hx hb dL_law_30 (by decide) ?_
      refine lv_iand hx hb dL_law_32 ?_
      obtain ⟨w, hw⟩ : ∃ y, y = xs (nI (6 * j)).toNatClampNeg &&& 31 := ⟨_, rfl⟩
      refine r_top (y := .int w) (congrArg Value.int hw) ?_
      by_cases d0 : w = (0 : Int32)
      · refine r_tsw X (tgt := 152) dL_law_33 (by rw [d0]; decide +kernel) (by rw [d0]; decide +kernel) ?_
        exact lc_feed X hX hbl hL hj b0 (by omega) (by omega) hR him G hl kk
      by_cases d1 : w = (1 : Int32)
      · refine r_tsw X (tgt := 215) dL_law_33 (by rw [d1]; decide +kernel) (by rw [d1]; decide +kernel) ?_
        exact lc_end X hX hbl hL hj b1 (by omega) (by omega) hR him G hl kk
      by_cases d2 : w = (2 : Int32)
      · refine r_tsw X (tgt := 238) dL_law_33 (by rw [d2]; decide +kernel) (by rw [d2]; decide +kernel) ?_
        exact lc_text X hX hbl hL hj b2 (by omega) (by omega) hR him G hl kk
      by_cases d3 : w = (3 : Int32)
      · refine r_tsw X (tgt := 251) dL_law_33 (by rw [d3]; decide +kernel) (by rw [d3]; decide +kernel) ?_
        exact lc_fault X hX hbl hL hj b3 (by omega) (by omega) hR him G hl kk
      by_cases d4 : w = (4 : Int32)
      · refine r_tsw X (tgt := 274) dL_law_33 (by rw [d4]; decide +kernel) (by rw [d4]; decide +kernel) ?_
        exact lc_ticks X hX hbl hL hj b4 (by omega) (by omega) hR him G hl kk
      by_cases d5 : w = (5 : Int32)
      · refine r_tsw X (tgt := 297) dL_law_33 (by rw [d5]; decide +kernel) (by rw [d5]; decide +kernel) ?_
        exact lc_watch X hX hbl hL hj b5 (by omega) (by omega) hR him G hl kk
      by_cases d6 : w = (6 : Int32)
      · refine r_tsw X (tgt := 310) dL_law_33 (by rw [d6]; decide +kernel) (by rw [d6]; decide +kernel) ?_
        exact lc_free X hX hbl hL hj b6 (by omega) (by omega) hR him G hl kk
      by_cases d7 : w = (7 : Int32)
      · refine r_tsw X (tgt := 333) dL_law_33 (by rw [d7]; decide +kernel) (by rw [d7]; decide +kernel) ?_
        exact lc_within X hX hbl hL hj b7 (by omega) (by omega) hR him G hl kk
      by_cases d8 : w = (8 : Int32)
      · refine r_tsw X (tgt := 382) dL_law_33 (by rw [d8]; decide +kernel) (by rw [d8]; decide +kernel) ?_
        exact lc_undo X hX hbl hL hj b8 (by omega) (by omega) hR him G hl kk
      by_cases d9 : w = (9 : Int32)
      · refine r_tsw X (tgt := 395) dL_law_33 (by rw [d9]; decide +kernel) (by rw [d9]; decide +kernel) ?_
        exact lc_count X hX hbl hL hj b9 (by omega) (by omega) hR him G hl kk
      by_cases d10 : w = (10 : Int32)
      · refine r_tsw X (tgt := 418) dL_law_33 (by rw [d10]; decide +kernel) (by rw [d10]; decide +kernel) ?_
        exact lc_worker X hX hbl hL hj b10 (by omega) (by omega) hR him G hl kk
      by_cases d11 : w = (11 : Int32)
      · refine r_tsw X (tgt := 451) dL_law_33 (by rw [d11]; decide +kernel) (by rw [d11]; decide +kernel) ?_
        exact lc_step X hX hbl hL hj b11 (by omega) (by omega) hR him G hl kk
      by_cases d12 : w = (12 : Int32)
      · refine r_tsw X (tgt := 510) dL_law_33 (by rw [d12]; decide +kernel) (by rw [d12]; decide +kernel) ?_
        exact lc_holder X hX hbl hL hj b12 (by omega) (by omega) hR him G hl kk
      by_cases d13 : w = (13 : Int32)
      · refine r_tsw X (tgt := 533) dL_law_33 (by rw [d13]; decide +kernel) (by rw [d13]; decide +kernel) ?_
        exact lc_pipe X hX hbl hL hj b13 (by omega) (by omega) hR him G hl kk
      by_cases d14 : w = (14 : Int32)
      · refine r_tsw X (tgt := 582) dL_law_33 (by rw [d14]; decide +kernel) (by rw [d14]; decide +kernel) ?_
        exact lc_messages X hX hbl hL hj b14 (by omega) (by omega) hR him G hl kk
      by_cases d15 : w = (15 : Int32)
      · refine r_tsw X (tgt := 615) dL_law_33 (by rw [d15]; decide +kernel) (by rw [d15]; decide +kernel) ?_
        exact lc_waits X hX hbl hL hj b15 (by omega) (by omega) hR him G hl kk
      by_cases d16 : w = (16 : Int32)
      · refine r_tsw X (tgt := 638) dL_law_33 (by rw [d16]; decide +kernel) (by rw [d16]; decide +kernel) ?_
        exact lc_way X hX hbl hL hj b16 (by omega) (by omega) hR him G hl kk
      by_cases d17 : w = (17 : Int32)
      · refine r_tsw X (tgt := 671) dL_law_33 (by rw [d17]; decide +kernel) (by rw [d17]; decide +kernel) ?_
        exact lc_ring X hX hbl hL hj b17 (by omega) (by omega) hR him G hl kk
      by_cases d18 : w = (18 : Int32)
      · refine r_tsw X (tgt := 694) dL_law_33 (by rw [d18]; decide +kernel) (by rw [d18]; decide +kernel) ?_
        exact lc_stall X hX hbl hL hj b18 (by omega) (by omega) hR him G hl kk
      by_cases d19 : w = (19 : Int32)
      · refine r_tsw X (tgt := 727) dL_law_33 (by rw [d19]; decide +kernel) (by rw [d19]; decide +kernel) ?_
        exact lc_freed X hX hbl hL hj b19 (by omega) (by omega) hR him G hl kk
      by_cases d20 : w = (20 : Int32)
      · refine r_tsw X (tgt := 750) dL_law_33 (by rw [d20]; decide +kernel) (by rw [d20]; decide +kernel) ?_
        exact lc_later X hX hbl hL hj b20 (by omega) (by omega) hR him G hl kk
      by_cases d21 : w = (21 : Int32)
      · refine r_tsw X (tgt := 783) dL_law_33 (by rw [d21]; decide +kernel) (by rw [d21]; decide +kernel) ?_
        exact lc_ends X hX hbl hL hj b21 (by omega) (by omega) hR him G hl kk
      by_cases d22 : w = (22 : Int32)
      · refine r_tsw X (tgt := 806) dL_law_33 (by rw [d22]; decide +kernel) (by rw [d22]; decide +kernel) ?_
        exact lc_told X hX hbl hL hj b22 (by omega) (by omega) hR him G hl kk
      by_cases d23 : w = (23 : Int32)
      · refine r_tsw X (tgt := 839) dL_law_33 (by rw [d23]; decide +kernel) (by rw [d23]; decide +kernel) ?_
        exact lc_fewest X hX hbl hL hj b23 (by omega) (by omega) hR him G hl kk
      by_cases d24 : w = (24 : Int32)
      · refine r_tsw X (tgt := 878) dL_law_33 (by rw [d24]; decide +kernel) (by rw [d24]; decide +kernel) ?_
        exact lc_image X hX hbl hL hj b24 (by omega) (by omega) hR him G hl kk
      by_cases d25 : w = (25 : Int32)
      · refine r_tsw X (tgt := 901) dL_law_33 (by rw [d25]; decide +kernel) (by rw [d25]; decide +kernel) ?_
        exact lc_again X hX hbl hL hj b25 (by omega) (by omega) hR him G hl kk
      have hd := tsw_d (x := w) (lo' := 0) (hi' := 25) (dflt := 891) (offs := #[119, 182, 205, 218, 241, 264, 277, 300, 349, 362, 385, 418, 477, 500, 549, 582, 605, 638, 661, 694, 717, 750, 773, 806, 845, 868]) [(0 : Int32), (1 : Int32), (2 : Int32), (3 : Int32), (4 : Int32), (5 : Int32), (6 : Int32), (7 : Int32), (8 : Int32), (9 : Int32), (10 : Int32), (11 : Int32), (12 : Int32), (13 : Int32), (14 : Int32), (15 : Int32), (16 : Int32), (17 : Int32), (18 : Int32), (19 : Int32), (20 : Int32), (21 : Int32), (22 : Int32), (23 : Int32), (24 : Int32), (25 : Int32)] (by
        intro k hk
        simp only [List.mem_cons, List.not_mem_nil, or_false] at hk
        rcases hk with rfl | rfl | rfl | rfl | rfl | rfl | rfl | rfl | rfl | rfl | rfl | rfl | rfl | rfl | rfl | rfl | rfl | rfl | rfl | rfl | rfl | rfl | rfl | rfl | rfl | rfl
        · exact d0
        · exact d1
        · exact d2
        · exact d3
        · exact d4
        · exact d5
        · exact d6
        · exact d7
        · exact d8
        · exact d9
        · exact d10
        · exact d11
        · exact d12
        · exact d13
        · exact d14
        · exact d15
        · exact d16
        · exact d17
        · exact d18
        · exact d19
        · exact d20
        · exact d21
        · exact d22
        · exact d23
        · exact d24
        · exact d25
        ) 25 (by decide) (by decide +kernel)
      refine r_tsw X (tgt := 924) dL_law_33 (by rw [hd.1]; rfl) hd.2 ?_
      refine W.widen (k := 200 + 20 * j + 20) (n := 20000 + 1395 * j + 1395) (by omega) (by omega) ?_
      exact kk S MO im ia H locs ls hR him G hl
