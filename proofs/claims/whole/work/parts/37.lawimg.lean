theorem wo_i1 {D : va_G} {A : Nat → Prop} {H0 H : Heap} {a b c t r : va_W} {locs : List Loc} (G : Wo D A H0 (a ++ (b ++ (c ++ (t ++ r)))) H locs) : Wo D A H0 ((b ++ t) ++ (a ++ (c ++ r))) H locs := by
  have G1 : Wo D A H0 (a ++ (b ++ (t ++ (c ++ r)))) H locs := G.perm ((List.perm_append_comm_assoc c t r).append_left b |>.append_left a)
  have G2 : Wo D A H0 (a ++ ((b ++ t) ++ (c ++ r))) H locs := by rw [List.append_assoc b t]; exact G1
  exact wo_p2 G2
theorem wo_i2 {D : va_G} {A : Nat → Prop} {H0 H : Heap} {a b c t r : va_W} {locs : List Loc} (G : Wo D A H0 ((b ++ t) ++ (a ++ (c ++ r))) H locs) : Wo D A H0 (a ++ (b ++ (c ++ (t ++ r)))) H locs := by
  have G2 : Wo D A H0 (a ++ ((b ++ t) ++ (c ++ r))) H locs := wo_p2 G
  rw [List.append_assoc b t] at G2
  exact G2.perm ((List.perm_append_comm_assoc t c r).append_left b |>.append_left a)
theorem wo_r {D : va_G} {A : Nat → Prop} {H0 H : Heap} {a b c r r' : va_W} {locs : List Loc} (hp : r.Perm r') (G : Wo D A H0 (a ++ (b ++ (c ++ r))) H locs) : Wo D A H0 (a ++ (b ++ (c ++ r'))) H locs := G.perm ((hp.append_left c).append_left b |>.append_left a)
theorem wo_n1 {D : va_G} {A : Nat → Prop} {H0 H : Heap} {u w t r : va_W} {locs : List Loc} (G : Wo D A H0 ((w ++ (u ++ t)) ++ r) H locs) : Wo D A H0 (((u ++ w) ++ t) ++ r) H locs := G.perm (List.Perm.append_right r (by rw [List.append_assoc]; exact List.perm_append_comm_assoc w u t))
def kRs (k : Nat → ClassId) (im : Nat → Option Nat) (ia : Nat → AIT) (IM : Nat → Option IMT) (i : Nat) : va_W := match i with
  | 0 => kI k (im 1) (ia 1) (IM 1) ++ kI k (im 2) (ia 2) (IM 2)
  | 1 => kI k (im 0) (ia 0) (IM 0) ++ kI k (im 2) (ia 2) (IM 2)
  | _ => kI k (im 0) (ia 0) (IM 0) ++ kI k (im 1) (ia 1) (IM 1)
theorem kIs_perm (k : Nat → ClassId) (im : Nat → Option Nat) (ia : Nat → AIT) (IM : Nat → Option IMT) {i : Nat} (hi : i < 3) : (kIs k im ia IM).Perm (kI k (im i) (ia i) (IM i) ++ kRs k im ia IM i) := by
  match i, hi with
  | 0, _ => exact List.Perm.refl _
  | 1, _ => exact List.perm_append_comm_assoc _ _ _
  | 2, _ =>
    show (kI k (im 0) (ia 0) (IM 0) ++ (kI k (im 1) (ia 1) (IM 1) ++ kI k (im 2) (ia 2) (IM 2))).Perm (kI k (im 2) (ia 2) (IM 2) ++ (kI k (im 0) (ia 0) (IM 0) ++ kI k (im 1) (ia 1) (IM 1)))
    rw [← List.append_assoc]
    exact List.perm_append_comm
theorem kRs_up (k : Nat → ClassId) (im : Nat → Option Nat) (ia : Nat → AIT) (IM : Nat → Option IMT) (i : Nat) (hi : i < 3) (x : Option Nat) (y : AIT) (z : Option IMT) : kRs k (va_up im i x) (va_up ia i y) (va_up IM i z) i = kRs k im ia IM i := by
  match i, hi with
  | 0, _ => rfl
  | 1, _ => rfl
  | 2, _ => rfl
theorem up_self {α : Type} (f : Nat → α) (i : Nat) : va_up f i (f i) = f := by
  funext q
  unfold va_up
  split
  · rename_i h; rw [h]
  · rfl
theorem kI_some {k : Nat → ClassId} {o : Nat} {a : AIT} {d : IMT} : kI k (some o) a (some d) = kTree k o a d := rfl
theorem kI_none {k : Nat → ClassId} {a : AIT} : kI k none a none = [] := rfl
theorem in3_lt {x : Int32} (h : vp_in x 3) : x.toNatClampNeg < 3 := Nat.not_le.mp fun q => h (Or.inr q)
section VC
variable {p : Program} {l : Launch} {e : Env} {R : Room} {s : State} {m : MethodId} {args : Array Value} {below : List Frame} {meth : Method} {c : Code} {H : Heap} {locs : List Loc} {cells slots : Nat} {Q : State → Prop}
variable {D : va_G} {k : Nat → ClassId} {Z : ZT} {cc : ByteArray} {mL : Nat} {ret : Option FieldType} {own : String} {A : Nat → Prop} {ws wc : va_W} {pc : Nat} {ls : Array Slot} {rest : List Value}
variable {y : MethodName} {bytes : ByteArray} {mLy n index fr lo mc ms b : Nat} {rety : Option FieldType} {As st0 : List Value} {Y : va_W → Prop} {ov : Option Value}
theorem run_VC (X : Cx p s m meth c D k Z A cc mL ret own) (hC : CN l D k Z y bytes mLy rety fr lo mc ms (.ref b :: As) ov wc Y) (hM : MV y bytes mLy rety n) (hl : Cond.methodLink own index y ∈ TB) (hR : fr + 1 ≤ R.frames ∧ 8 + (mLy + 11) + lo ≤ R.locals) (G : Wo D A s.heap ws H locs) (hA : ∀ q, s.heap.size ≤ q → A q) (is : List Nat) (hs : is.map (fun i => ws[i]?) = wc.map some) (hn : va_nd is = true)
    (q0 : Nat) {ci : Nat} {fs : List Value} {T : u_T} {N : Nat} (he : ws[q0]? = some (b, .inr (ci, fs))) (hc : vwCl[ci]? = some (y.cls, T, N)) (hAs : As.length = n) (hsz : ls.size = mL) (hst : st0 = As.reverse ++ .ref b :: rest) (hW : (rest.map fun v => v.category).sum ≤ 8) (hdg : decode cc pc = .ok (.invokevirtual index, 3)) (hf : cells + mc ≤ R.cells ∧ slots + ms ≤ R.slots) :
    va_Run p l e R s m args below meth c H locs cells slots mc ms (F0 m pc ls st0) rest (QnN D ov wc H.size Y (Value.ref b :: As).toArray) (va_A wc H.size) := by
  have hE := X.2.2.2.2.2.2.1
  exact va_runV (Ts := TB) ⟨X.1, X.2.1, X.2.2.2.2.1, X.2.2.2.2.2.1, fun w hw => hE.use hw⟩ (hC H.size) ⟨⟨rfl, rfl, hR.1, hR.2, code_pay hE hM.1, List.mem_singleton.mpr rfl, hE.use hM.1, hE.use hM.2.1, hM.2.2.2.2.1, len_of hM.2.2.2.2.2, hE.use hl⟩, hE.use hM.2.2.1, hE.use hM.2.2.2.1⟩ ⟨PwN.blind X.2.2.2.2.2.2.2.2.2, va_recv X.2.2.2.2.2.2.2.1 G.1 hc he, pn_at X G hA is hs hn⟩ rfl hAs hsz hst (lv_room hW) hdg hf
end VC
set_option maxHeartbeats 4000000 in
set_option maxRecDepth 100000 in
theorem lc_image {p : Program} {l : Launch} {e : Env} {s : State} {m : MethodId} {below : List Frame} {meth : Method} {c : Code} {D : va_G} {k : Nat → ClassId} {t : Nat → Nat} {b L : Nat} {xs : Nat → Int32} {Q : State → Prop} {Rel : HWS → MoT → Prop} {qx qm : Nat} {ad aHS aHK : Nat → Nat → Nat} (X : Cx p s m meth c D k (SZ t) (fun q : Nat => s.heap.size ≤ q) code 4 (some .boolean) R_law) (hX : va_X b L xs s s.heap) (hbl : b < s.heap.size) (hL : L ≤ 3072) {j : Nat} (hj : 6 * j + 6 ≤ L) (hB : B_image Rel) {S : HWS} {MO : MoT} {im : Nat → Option Nat} {ia : Nat → AIT} {H : Heap} {locs : List Loc} {ls : Array Slot} {cells slots : Nat} (hc : cells + 20 ≤ 600000) (hs : slots + 1395 ≤ 7302250) (hR : Rel S MO) (him : ∀ i, i < 3 → (im i).isSome = (S.2.2.2.2.2.2.2.2.2.2.2.2.2.2.2 i).isSome) (G : Wo D (fun q : Nat => s.heap.size ≤ q) s.heap (wL k qx qm ad aHS aHK im ia S MO) H locs) (hl : lv_has ls 4 [(0, .ref b), (1, .ref qx), (2, .ref qm), (3, .int (nI (6 * j)))]) (kk : Kont p l e s m b below meth c D k Q Rel qx qm ad aHS aHK j (cells + 20) (slots + 1395)) : W p l e room_1 s m #[Value.ref b] below meth c H locs cells slots Q (F0 m 878 ls []) := by
  have hx := X.1
  have hb := X.2.1
  have hbA : ¬ s.heap.size ≤ b := Nat.not_le.mpr hbl
  unfold wL at G
  refine lv_aload_n hx hb dL_law_878 rfl (lv_at hl 1 rfl) ?_
  refine lv_aload_n hx hb dL_law_879 rfl (lv_at hl 0 rfl) ?_
  refine lv_iload_n hx hb dL_law_880 rfl (lv_at hl 3 rfl) ?_
  refine lv_iconst (v := 1) hx hb dL_law_881 (by decide) ?_
  refine lv_iadd hx hb dL_law_882 ?_
  refine va_sld hx hb hX hbl hbA G.2.2 (li1 hj hL) dL_law_883 ?_
  obtain ⟨v1, hv1⟩ : ∃ y, y = xs (nI (6 * j) + 1).toNatClampNeg := ⟨_, rfl⟩
  refine r_top (y := .int v1) (congrArg Value.int hv1) ?_
  obtain ⟨hB1, hB2⟩ := hB S MO v1 hR
  by_cases hi : vp_in v1 3
  · have hi3 := in3_lt hi
    obtain ⟨q, g, hq, hg, hgv, hR2⟩ := hB2 hi _ rfl
    have G := wo_r (kIs_perm k im ia S.2.2.2.2.2.2.2.2.2.2.2.2.2.2.2 hi3) G
    cases hd : S.2.2.2.2.2.2.2.2.2.2.2.2.2.2.2 v1.toNatClampNeg with
    | none =>
      have hn0 : im v1.toNatClampNeg = none := by
        have h9 := him _ hi3
        rw [hd] at h9
        cases h8 : im v1.toNatClampNeg with
        | none => rfl
        | some z => rw [h8] at h9; cases h9
      rw [hd] at hq
      rw [hd, hn0, kI_none, List.nil_append] at G
      have G := wo_p2 G
      refine p_CR (st1 := [.int (bI true)]) (wr := kHi k (ad 0 2) (ad 6) (S.2.2.2.2.2.1) ++ (kRd k (ad 0 3) (ad 7) (S.2.2.2.2.2.2.2.2.1) ++ (kPl k (ad 7 0) (ad 8) (S.2.2.2.2.2.2.2.2.2.1) ++ (kVw k (ad 0 4) (ad 9) (S.2.2.2.2.2.2.2.2.2.2.1) ++ (kTr k (ad 0 5) (ad 10) (S.2.2.2.2.2.2.2.2.2.2.2.1) ++ (kSc k (ad 10 0) (ad 11) (S.2.2.2.2.2.2.2.2.2.2.2.2.1) ++ (kVw k (ad 10 1) (ad 12) (S.2.2.2.2.2.2.2.2.2.2.2.2.2.1) ++ (kSc k (ad 0 6) (ad 13) (S.2.2.2.2.2.2.2.2.2.2.2.2.2.2.1))))))))) (run_VC (rest := []) X (ct_image_none (SZ_ok t) qx (ad 0) (ad 1) (ad 2) (ad 3) (ad 4) (ad 5) hi hn0 hq) mk_X9_image ml_L_118 ⟨(Nat.le_of_ble_eq_true rfl), (Nat.le_of_ble_eq_true rfl)⟩ G (fun _ h => h) [0, 1, 2, 3, 4, 5, 6, 7, 8, 9, 10, 11, 12, 13, 14, 15, 16, 17, 18, 19, 20, 21] rfl rfl 0 rfl rfl rfl hl.1 rfl (Nat.le_of_ble_eq_true rfl) dL_law_884 ⟨by show cells + 20 ≤ 600000; omega, by show slots + 1395 ≤ 7302250; omega⟩) rfl G (fun _ h => h) [0, 1, 2, 3, 4, 5, 6, 7, 8, 9, 10, 11, 12, 13, 14, 15, 16, 17, 18, 19, 20, 21] [22, 23, 24, 25, 26, 27, 28, 29, 30, 31, 32, 33, 34, 35, 36, 37, 38, 39, 40, 41, 42, 43, 44, 45, 46, 47, 48, 49, 50, 51, 52, 53, 54, 55, 56, 57, 58, 59, 60] rfl rfl rfl (by decide) (fun w1 H locs hY G => ?_)
      obtain ⟨o, aW, aP, aS, aK, aT, rfl⟩ := hY
      have G : Wo D (fun q : Nat => s.heap.size ≤ q) s.heap (((kHi k (ad 0 2) (ad 6) (S.2.2.2.2.2.1) ++ (kRd k (ad 0 3) (ad 7) (S.2.2.2.2.2.2.2.2.1) ++ (kPl k (ad 7 0) (ad 8) (S.2.2.2.2.2.2.2.2.2.1) ++ (kVw k (ad 0 4) (ad 9) (S.2.2.2.2.2.2.2.2.2.2.1) ++ (kTr k (ad 0 5) (ad 10) (S.2.2.2.2.2.2.2.2.2.2.2.1) ++ (kSc k (ad 10 0) (ad 11) (S.2.2.2.2.2.2.2.2.2.2.2.2.1) ++ (kVw k (ad 10 1) (ad 12) (S.2.2.2.2.2.2.2.2.2.2.2.2.2.1) ++ (kSc k (ad 0 6) (ad 13) (S.2.2.2.2.2.2.2.2.2.2.2.2.2.2.1))))))))) ++ ((kHw k qx (ad 0) () ++ ([(ad 0 1, .inl (k 5, 3, .inr (.inr (.inr (.inr (va_up im v1.toNatClampNeg (some o)))))))] ++ (kWd k (ad 0 0) (ad 1) (S.1) ++ (kPl k (ad 1 0) (ad 2) (S.2.1) ++ (kSc k (ad 1 1) (ad 3) (S.2.2.1) ++ (kSk k (ad 1 2) (ad 4) (S.2.2.2.1) ++ (kTp k (ad 1 3) (ad 5) (S.2.2.2.2.1)))))))) ++ kTree k o (aW, aP, aS, aK, aT) q)) ++ (kMo k qm (ad 14) MO ++ (wP k ad aHS aHK S ++ kRs k im ia S.2.2.2.2.2.2.2.2.2.2.2.2.2.2.2 v1.toNatClampNeg))) H locs := by
        simp only [List.append_assoc] at G ⊢
        exact G
      have G := wo_n1 G
      have G : Wo D (fun q : Nat => s.heap.size ≤ q) s.heap ((wB k qx ad (va_up im v1.toNatClampNeg (some o)) S ++ kTree k o (aW, aP, aS, aK, aT) q) ++ (kMo k qm (ad 14) MO ++ (wP k ad aHS aHK S ++ kRs k im ia S.2.2.2.2.2.2.2.2.2.2.2.2.2.2.2 v1.toNatClampNeg))) H locs := by
        simp only [wB, List.append_assoc] at G ⊢
        exact G
      have G := wo_i2 G
      have hpp := (kIs_perm k (va_up im v1.toNatClampNeg (some o)) (va_up ia v1.toNatClampNeg (aW, aP, aS, aK, aT)) (va_up S.2.2.2.2.2.2.2.2.2.2.2.2.2.2.2 v1.toNatClampNeg (some q)) hi3).symm
      rw [kRs_up k im ia S.2.2.2.2.2.2.2.2.2.2.2.2.2.2.2 _ hi3, show va_up im v1.toNatClampNeg (some o) v1.toNatClampNeg = some o from if_pos rfl, show va_up ia v1.toNatClampNeg (aW, aP, aS, aK, aT) v1.toNatClampNeg = (aW, aP, aS, aK, aT) from if_pos rfl, show va_up S.2.2.2.2.2.2.2.2.2.2.2.2.2.2.2 v1.toNatClampNeg (some q) v1.toNatClampNeg = some q from if_pos rfl, kI_some] at hpp
      have G := wo_r hpp G
      refine lv_aload_n hx hb dL_law_887 rfl (lv_at hl 2 rfl) ?_
      refine lv_aload_n hx hb dL_law_888 rfl (lv_at hl 0 rfl) ?_
      refine lv_iload_n hx hb dL_law_889 rfl (lv_at hl 3 rfl) ?_
      refine lv_iconst (v := 1) hx hb dL_law_890 (by decide) ?_
      refine lv_iadd hx hb dL_law_891 ?_
      refine va_sld hx hb hX hbl hbA G.2.2 (li1 hj hL) dL_law_892 ?_
      refine r_top (y := .int v1) (congrArg Value.int hv1) ?_
      refine p_NR (st1 := [.int (bI g.1), .int (bI true)]) (wr := []) (RW := wB k qx ad (va_up im v1.toNatClampNeg (some o)) S ++ (wP k ad aHS aHK S ++ kIs k (va_up im v1.toNatClampNeg (some o)) (va_up ia v1.toNatClampNeg (aW, aP, aS, aK, aT)) (va_up S.2.2.2.2.2.2.2.2.2.2.2.2.2.2.2 v1.toNatClampNeg (some q)))) (ws := kMo k qm (ad 14) MO) (ws' := kMo k qm (ad 14) g.2) (run_V (rest := [.int (bI true)]) X (ctX10_image (SZ_ok t) qm (ad 14) hg) mk_X10_image ml_L_121 ⟨(Nat.le_of_ble_eq_true rfl), (Nat.le_of_ble_eq_true rfl)⟩ G [0, 1, 2, 3, 4, 5, 6, 7] rfl rfl 0 rfl rfl rfl hl.1 rfl (Nat.le_of_ble_eq_true rfl) dL_law_893 ⟨by show _ ≤ 600000; omega, by show _ ≤ 7302250; omega⟩) rfl G [0, 1, 2, 3, 4, 5, 6, 7] [] 8 rfl rfl rfl rfl rfl (by decide) (by decide) rfl (fun H locs G => ?_)
      refine lv_icmp_eq (tgt := 924) hx hb dL_law_896 (by decide) (fun _ => ?_) (fun z => absurd (by rw [hgv]) z)
      exact kk (S.1, S.2.1, S.2.2.1, S.2.2.2.1, S.2.2.2.2.1, S.2.2.2.2.2.1, S.2.2.2.2.2.2.1, S.2.2.2.2.2.2.2.1, S.2.2.2.2.2.2.2.2.1, S.2.2.2.2.2.2.2.2.2.1, S.2.2.2.2.2.2.2.2.2.2.1, S.2.2.2.2.2.2.2.2.2.2.2.1, S.2.2.2.2.2.2.2.2.2.2.2.2.1, S.2.2.2.2.2.2.2.2.2.2.2.2.2.1, S.2.2.2.2.2.2.2.2.2.2.2.2.2.2.1, va_up S.2.2.2.2.2.2.2.2.2.2.2.2.2.2.2 v1.toNatClampNeg (some q)) g.2 (va_up im v1.toNatClampNeg (some o)) (va_up ia v1.toNatClampNeg (aW, aP, aS, aK, aT)) H locs ls hR2 (fun i h => by
          show (va_up im v1.toNatClampNeg (some o) i).isSome = (va_up S.2.2.2.2.2.2.2.2.2.2.2.2.2.2.2 v1.toNatClampNeg (some q) i).isSome
          unfold va_up
          by_cases hz : i = v1.toNatClampNeg
          · rw [if_pos hz, if_pos hz]; rfl
          · rw [if_neg hz, if_neg hz]; exact him i h) G hl
    | some d =>
      obtain ⟨o, ho⟩ : ∃ o, im v1.toNatClampNeg = some o := by
        have h9 := him _ hi3
        rw [hd] at h9
        cases h8 : im v1.toNatClampNeg with
        | none => rw [h8] at h9; cases h9
        | some z => exact ⟨z, rfl⟩
      rw [hd] at hq
      rw [hd, ho, kI_some] at G
      have G := wo_i1 G
      refine p_NR (st1 := [.int (bI true)]) (wr := kHi k (ad 0 2) (ad 6) (S.2.2.2.2.2.1) ++ (kRd k (ad 0 3) (ad 7) (S.2.2.2.2.2.2.2.2.1) ++ (kPl k (ad 7 0) (ad 8) (S.2.2.2.2.2.2.2.2.2.1) ++ (kVw k (ad 0 4) (ad 9) (S.2.2.2.2.2.2.2.2.2.2.1) ++ (kTr k (ad 0 5) (ad 10) (S.2.2.2.2.2.2.2.2.2.2.2.1) ++ (kSc k (ad 10 0) (ad 11) (S.2.2.2.2.2.2.2.2.2.2.2.2.1) ++ (kVw k (ad 10 1) (ad 12) (S.2.2.2.2.2.2.2.2.2.2.2.2.2.1) ++ (kSc k (ad 0 6) (ad 13) (S.2.2.2.2.2.2.2.2.2.2.2.2.2.2.1))))))))) (ws' := wB k qx ad im S ++ kTree k o (ia v1.toNatClampNeg) q) (run_V (rest := []) X (ct_image_some (SZ_ok t) qx (ad 0) o (ad 1) (ad 2) (ad 3) (ad 4) (ad 5) (ia v1.toNatClampNeg).1 (ia v1.toNatClampNeg).2.1 (ia v1.toNatClampNeg).2.2.1 (ia v1.toNatClampNeg).2.2.2.1 (ia v1.toNatClampNeg).2.2.2.2 hi ho hq) mk_X9_image ml_L_118 ⟨(Nat.le_of_ble_eq_true rfl), (Nat.le_of_ble_eq_true rfl)⟩ G [0, 1, 2, 3, 4, 5, 6, 7, 8, 9, 10, 11, 12, 13, 14, 15, 16, 17, 18, 19, 20, 21, 61, 62, 63, 64, 65, 66, 67, 68, 69, 70, 71, 72, 73, 74, 75, 76, 77, 78, 79, 80] rfl rfl 0 rfl rfl rfl hl.1 rfl (Nat.le_of_ble_eq_true rfl) dL_law_884 ⟨by show _ ≤ 600000; omega, by show _ ≤ 7302250; omega⟩) rfl G [0, 1, 2, 3, 4, 5, 6, 7, 8, 9, 10, 11, 12, 13, 14, 15, 16, 17, 18, 19, 20, 21, 61, 62, 63, 64, 65, 66, 67, 68, 69, 70, 71, 72, 73, 74, 75, 76, 77, 78, 79, 80] [22, 23, 24, 25, 26, 27, 28, 29, 30, 31, 32, 33, 34, 35, 36, 37, 38, 39, 40, 41, 42, 43, 44, 45, 46, 47, 48, 49, 50, 51, 52, 53, 54, 55, 56, 57, 58, 59, 60] 81 rfl rfl rfl rfl rfl (by decide +kernel) (by decide +kernel) rfl (fun H locs G => ?_)
      have G := wo_i2 G
      have hpp := (kIs_perm k im ia (va_up S.2.2.2.2.2.2.2.2.2.2.2.2.2.2.2 v1.toNatClampNeg (some q)) hi3).symm
      have hrr := kRs_up k im ia S.2.2.2.2.2.2.2.2.2.2.2.2.2.2.2 _ hi3 (im v1.toNatClampNeg) (ia v1.toNatClampNeg) (some q)
      rw [up_self, up_self] at hrr
      rw [hrr, ho, show va_up S.2.2.2.2.2.2.2.2.2.2.2.2.2.2.2 v1.toNatClampNeg (some q) v1.toNatClampNeg = some q from if_pos rfl, kI_some] at hpp
      have G := wo_r hpp G
      refine lv_aload_n hx hb dL_law_887 rfl (lv_at hl 2 rfl) ?_
      refine lv_aload_n hx hb dL_law_888 rfl (lv_at hl 0 rfl) ?_
      refine lv_iload_n hx hb dL_law_889 rfl (lv_at hl 3 rfl) ?_
      refine lv_iconst (v := 1) hx hb dL_law_890 (by decide) ?_
      refine lv_iadd hx hb dL_law_891 ?_
      refine va_sld hx hb hX hbl hbA G.2.2 (li1 hj hL) dL_law_892 ?_
      refine r_top (y := .int v1) (congrArg Value.int hv1) ?_
      refine p_NR (st1 := [.int (bI g.1), .int (bI true)]) (wr := []) (RW := wB k qx ad im S ++ (wP k ad aHS aHK S ++ kIs k im ia (va_up S.2.2.2.2.2.2.2.2.2.2.2.2.2.2.2 v1.toNatClampNeg (some q)))) (ws := kMo k qm (ad 14) MO) (ws' := kMo k qm (ad 14) g.2) (run_V (rest := [.int (bI true)]) X (ctX10_image (SZ_ok t) qm (ad 14) hg) mk_X10_image ml_L_121 ⟨(Nat.le_of_ble_eq_true rfl), (Nat.le_of_ble_eq_true rfl)⟩ G [0, 1, 2, 3, 4, 5, 6, 7] rfl rfl 0 rfl rfl rfl hl.1 rfl (Nat.le_of_ble_eq_true rfl) dL_law_893 ⟨by show _ ≤ 600000; omega, by show _ ≤ 7302250; omega⟩) rfl G [0, 1, 2, 3, 4, 5, 6, 7] [] 8 rfl rfl rfl rfl rfl (by decide) (by decide) rfl (fun H locs G => ?_)
      refine lv_icmp_eq (tgt := 924) hx hb dL_law_896 (by decide) (fun _ => ?_) (fun z => absurd (by rw [hgv]) z)
      refine W.widen (k := cells + 20) (n := slots + 1395) (by omega) (by omega) ?_
      exact kk (S.1, S.2.1, S.2.2.1, S.2.2.2.1, S.2.2.2.2.1, S.2.2.2.2.2.1, S.2.2.2.2.2.2.1, S.2.2.2.2.2.2.2.1, S.2.2.2.2.2.2.2.2.1, S.2.2.2.2.2.2.2.2.2.1, S.2.2.2.2.2.2.2.2.2.2.1, S.2.2.2.2.2.2.2.2.2.2.2.1, S.2.2.2.2.2.2.2.2.2.2.2.2.1, S.2.2.2.2.2.2.2.2.2.2.2.2.2.1, S.2.2.2.2.2.2.2.2.2.2.2.2.2.2.1, va_up S.2.2.2.2.2.2.2.2.2.2.2.2.2.2.2 v1.toNatClampNeg (some q)) g.2 im ia H locs ls hR2 (fun i h => by
          show (im i).isSome = (va_up S.2.2.2.2.2.2.2.2.2.2.2.2.2.2.2 v1.toNatClampNeg (some q) i).isSome
          unfold va_up
          by_cases hz : i = v1.toNatClampNeg
          · rw [if_pos hz, hz, ho]; rfl
          · rw [if_neg hz]; exact him i h) G hl
  · obtain ⟨g, hg, hgv, hR2⟩ := hB1 hi
    have G := wo_p2 G
    refine p_R (st1 := [.int (bI false)]) (run_V (rest := []) X (ct_image_out (SZ_ok t) qx hi) mk_X9_image ml_L_118 ⟨(Nat.le_of_ble_eq_true rfl), (Nat.le_of_ble_eq_true rfl)⟩ G [] rfl rfl 0 rfl rfl rfl hl.1 rfl (Nat.le_of_ble_eq_true rfl) dL_law_884 ⟨by show _ ≤ 600000; omega, by show _ ≤ 7302250; omega⟩) rfl ?_
    have G := wo_p2 G
    refine lv_aload_n hx hb dL_law_887 rfl (lv_at hl 2 rfl) ?_
    refine lv_aload_n hx hb dL_law_888 rfl (lv_at hl 0 rfl) ?_
    refine lv_iload_n hx hb dL_law_889 rfl (lv_at hl 3 rfl) ?_
    refine lv_iconst (v := 1) hx hb dL_law_890 (by decide) ?_
    refine lv_iadd hx hb dL_law_891 ?_
    refine va_sld hx hb hX hbl hbA G.2.2 (li1 hj hL) dL_law_892 ?_
    refine r_top (y := .int v1) (congrArg Value.int hv1) ?_
    refine p_NR (st1 := [.int (bI g.1), .int (bI false)]) (wr := []) (RW := wB k qx ad im S ++ (wP k ad aHS aHK S ++ kIs k im ia S.2.2.2.2.2.2.2.2.2.2.2.2.2.2.2)) (ws := kMo k qm (ad 14) MO) (ws' := kMo k qm (ad 14) g.2) (run_V (rest := [.int (bI false)]) X (ctX10_image (SZ_ok t) qm (ad 14) hg) mk_X10_image ml_L_121 ⟨(Nat.le_of_ble_eq_true rfl), (Nat.le_of_ble_eq_true rfl)⟩ G [0, 1, 2, 3, 4, 5, 6, 7] rfl rfl 0 rfl rfl rfl hl.1 rfl (Nat.le_of_ble_eq_true rfl) dL_law_893 ⟨by show _ ≤ 600000; omega, by show _ ≤ 7302250; omega⟩) rfl G [0, 1, 2, 3, 4, 5, 6, 7] [] 8 rfl rfl rfl rfl rfl (by decide) (by decide) rfl (fun H locs G => ?_)
    refine lv_icmp_eq (tgt := 924) hx hb dL_law_896 (by decide) (fun _ => ?_) (fun z => absurd (by rw [hgv]) z)
    refine W.widen (k := cells + 20) (n := slots + 1395) (by omega) (by omega) ?_
    exact kk S g.2 im ia H locs ls hR2 him G hl
set_option maxHeartbeats 4000000 in
set_option maxRecDepth 100000 in
theorem lc_again {p : Program} {l : Launch} {e : Env} {s : State} {m : MethodId} {below : List Frame} {meth : Method} {c : Code} {D : va_G} {k : Nat → ClassId} {t : Nat → Nat} {b L : Nat} {xs : Nat → Int32} {Q : State → Prop} {Rel : HWS → MoT → Prop} {qx qm : Nat} {ad aHS aHK : Nat → Nat → Nat} (X : Cx p s m meth c D k (SZ t) (fun q : Nat => s.heap.size ≤ q) code 4 (some .boolean) R_law) (hX : va_X b L xs s s.heap) (hbl : b < s.heap.size) (hL : L ≤ 3072) {j : Nat} (hj : 6 * j + 6 ≤ L) (hB : B_again Rel) {S : HWS} {MO : MoT} {im : Nat → Option Nat} {ia : Nat → AIT} {H : Heap} {locs : List Loc} {ls : Array Slot} {cells slots : Nat} (hc : cells + 20 ≤ 600000) (hs : slots + 1395 ≤ 7302250) (hR : Rel S MO) (him : ∀ i, i < 3 → (im i).isSome = (S.2.2.2.2.2.2.2.2.2.2.2.2.2.2.2 i).isSome) (G : Wo D (fun q : Nat => s.heap.size ≤ q) s.heap (wL k qx qm ad aHS aHK im ia S MO) H locs) (hl : lv_has ls 4 [(0, .ref b), (1, .ref qx), (2, .ref qm), (3, .int (nI (6 * j)))]) (kk : Kont p l e s m b below meth c D k Q Rel qx qm ad aHS aHK j (cells + 20) (slots + 1395)) : W p l e room_1 s m #[Value.ref b] below meth c H locs cells slots Q (F0 m 901 ls []) := by
  have hx := X.1
  have hb := X.2.1
  have hbA : ¬ s.heap.size ≤ b := Nat.not_le.mpr hbl
  unfold wL at G
  refine lv_aload_n hx hb dL_law_901 rfl (lv_at hl 1 rfl) ?_
  refine lv_aload_n hx hb dL_law_902 rfl (lv_at hl 0 rfl) ?_
  refine lv_iload_n hx hb dL_law_903 rfl (lv_at hl 3 rfl) ?_
  refine lv_iconst (v := 1) hx hb dL_law_904 (by decide) ?_
  refine lv_iadd hx hb dL_law_905 ?_
  refine va_sld hx hb hX hbl hbA G.2.2 (li1 hj hL) dL_law_906 ?_
  obtain ⟨v1, hv1⟩ : ∃ y, y = xs (nI (6 * j) + 1).toNatClampNeg := ⟨_, rfl⟩
  refine r_top (y := .int v1) (congrArg Value.int hv1) ?_
  obtain ⟨hB1, hB2⟩ := hB S MO v1 hR
  by_cases hi : vp_in v1 3
  · have hi3 := in3_lt hi
    cases hd : S.2.2.2.2.2.2.2.2.2.2.2.2.2.2.2 v1.toNatClampNeg with
    | none =>
      have hn0 : im v1.toNatClampNeg = none := by
        have h9 := him _ hi3
        rw [hd] at h9
        cases h8 : im v1.toNatClampNeg with
        | none => rfl
        | some z => rw [h8] at h9; cases h9
      obtain ⟨g, hg, hgv, hR2⟩ := hB1 (Or.inr hd)
      have G := wo_p2 G
      refine p_R (st1 := [.int (bI false)]) (run_V (rest := []) X (ct_again_none (SZ_ok t) qx (ad 0) hi hn0) mk_X9_again ml_L_122 ⟨(Nat.le_of_ble_eq_true rfl), (Nat.le_of_ble_eq_true rfl)⟩ G [0, 1] rfl rfl 0 rfl rfl rfl hl.1 rfl (Nat.le_of_ble_eq_true rfl) dL_law_907 ⟨by show _ ≤ 600000; omega, by show _ ≤ 7302250; omega⟩) rfl ?_
      have G := wo_p2 G
      refine lv_aload_n hx hb dL_law_910 rfl (lv_at hl 2 rfl) ?_
      refine lv_aload_n hx hb dL_law_911 rfl (lv_at hl 0 rfl) ?_
      refine lv_iload_n hx hb dL_law_912 rfl (lv_at hl 3 rfl) ?_
      refine lv_iconst (v := 1) hx hb dL_law_913 (by decide) ?_
      refine lv_iadd hx hb dL_law_914 ?_
      refine va_sld hx hb hX hbl hbA G.2.2 (li1 hj hL) dL_law_915 ?_
      refine r_top (y := .int v1) (congrArg Value.int hv1) ?_
      refine p_NR (st1 := [.int (bI g.1), .int (bI false)]) (wr := []) (RW := wB k qx ad im S ++ (wP k ad aHS aHK S ++ kIs k im ia S.2.2.2.2.2.2.2.2.2.2.2.2.2.2.2)) (ws := kMo k qm (ad 14) MO) (ws' := kMo k qm (ad 14) g.2) (run_V (rest := [.int (bI false)]) X (ctX10_again (SZ_ok t) qm (ad 14) hg) mk_X10_again ml_L_125 ⟨(Nat.le_of_ble_eq_true rfl), (Nat.le_of_ble_eq_true rfl)⟩ G [0, 1, 2, 3, 4, 5, 6, 7] rfl rfl 0 rfl rfl rfl hl.1 rfl (Nat.le_of_ble_eq_true rfl) dL_law_916 ⟨by show _ ≤ 600000; omega, by show _ ≤ 7302250; omega⟩) rfl G [0, 1, 2, 3, 4, 5, 6, 7] [] 8 rfl rfl rfl rfl rfl (by decide) (by decide) rfl (fun H locs G => ?_)
      refine lv_icmp_eq (tgt := 924) hx hb dL_law_919 (by decide) (fun _ => ?_) (fun z => absurd (by rw [hgv]) z)
      refine W.widen (k := cells + 20) (n := slots + 1395) (by omega) (by omega) ?_
      exact kk S g.2 im ia H locs ls hR2 him G hl
    | some d =>
      obtain ⟨o, ho⟩ : ∃ o, im v1.toNatClampNeg = some o := by
        have h9 := him _ hi3
        rw [hd] at h9
        cases h8 : im v1.toNatClampNeg with
        | none => rw [h8] at h9; cases h9
        | some z => exact ⟨z, rfl⟩
      obtain ⟨q, q2, g, hq, hq2, hg, hgv, hR2⟩ := hB2 hi d hd
      have G := wo_r (kIs_perm k im ia S.2.2.2.2.2.2.2.2.2.2.2.2.2.2.2 hi3) G
      rw [hd, ho, kI_some] at G
      have G := wo_i1 G
      refine p_NR (st1 := [.int (bI true)]) (wr := kRd k (ad 0 3) (ad 7) (S.2.2.2.2.2.2.2.2.1) ++ (kPl k (ad 7 0) (ad 8) (S.2.2.2.2.2.2.2.2.2.1) ++ (kVw k (ad 0 4) (ad 9) (S.2.2.2.2.2.2.2.2.2.2.1) ++ (kTr k (ad 0 5) (ad 10) (S.2.2.2.2.2.2.2.2.2.2.2.1) ++ (kSc k (ad 10 0) (ad 11) (S.2.2.2.2.2.2.2.2.2.2.2.2.1) ++ (kVw k (ad 10 1) (ad 12) (S.2.2.2.2.2.2.2.2.2.2.2.2.2.1) ++ (kSc k (ad 0 6) (ad 13) (S.2.2.2.2.2.2.2.2.2.2.2.2.2.2.1)))))))) (ws' := (kHw k qx (ad 0) () ++ ([(ad 0 1, .inl (k 5, 3, .inr (.inr (.inr (.inr (im))))))] ++ (kWd k (ad 0 0) (ad 1) (q.1) ++ (kPl k (ad 1 0) (ad 2) (q.2.1) ++ (kSc k (ad 1 1) (ad 3) (q.2.2.1) ++ (kSk k (ad 1 2) (ad 4) (q.2.2.2.1) ++ (kTp k (ad 1 3) (ad 5) (q.2.2.2.2) ++ (kHi k (ad 0 2) (ad 6) (q2) ++ (kRd k (ad 0 3) (ad 7) (S.2.2.2.2.2.2.2.2.1) ++ (kPl k (ad 7 0) (ad 8) (S.2.2.2.2.2.2.2.2.2.1) ++ (kVw k (ad 0 4) (ad 9) (S.2.2.2.2.2.2.2.2.2.2.1) ++ (kTr k (ad 0 5) (ad 10) (S.2.2.2.2.2.2.2.2.2.2.2.1) ++ (kSc k (ad 10 0) (ad 11) (S.2.2.2.2.2.2.2.2.2.2.2.2.1) ++ (kVw k (ad 10 1) (ad 12) (S.2.2.2.2.2.2.2.2.2.2.2.2.2.1) ++ (kSc k (ad 0 6) (ad 13) (S.2.2.2.2.2.2.2.2.2.2.2.2.2.2.1)))))))))))))))) ++ kTree k o (ia v1.toNatClampNeg) d) (run_V (rest := []) X (ct_again_some (SZ_ok t) qx (ad 0) o (ad 1) (ad 2) (ad 3) (ad 4) (ad 5) (ia v1.toNatClampNeg).1 (ia v1.toNatClampNeg).2.1 (ia v1.toNatClampNeg).2.2.1 (ia v1.toNatClampNeg).2.2.2.1 (ia v1.toNatClampNeg).2.2.2.2 (ad 6) hi ho hq hq2) mk_X9_again ml_L_122 ⟨(Nat.le_of_ble_eq_true rfl), (Nat.le_of_ble_eq_true rfl)⟩ G [0, 1, 2, 3, 4, 5, 6, 7, 8, 9, 10, 11, 12, 13, 14, 15, 16, 17, 18, 19, 20, 21, 61, 62, 63, 64, 65, 66, 67, 68, 69, 70, 71, 72, 73, 74, 75, 76, 77, 78, 79, 80, 22, 23, 24] rfl rfl 0 rfl rfl rfl hl.1 rfl (Nat.le_of_ble_eq_true rfl) dL_law_907 ⟨by show _ ≤ 600000; omega, by show _ ≤ 7302250; omega⟩) rfl G [0, 1, 2, 3, 4, 5, 6, 7, 8, 9, 10, 11, 12, 13, 14, 15, 16, 17, 18, 19, 20, 21, 61, 62, 63, 64, 65, 66, 67, 68, 69, 70, 71, 72, 73, 74, 75, 76, 77, 78, 79, 80, 22, 23, 24] [25, 26, 27, 28, 29, 30, 31, 32, 33, 34, 35, 36, 37, 38, 39, 40, 41, 42, 43, 44, 45, 46, 47, 48, 49, 50, 51, 52, 53, 54, 55, 56, 57, 58, 59, 60] 81 rfl rfl rfl rfl rfl (by decide +kernel) (by decide +kernel) rfl (fun H locs G => ?_)
      have G := wo_i2 G
      have hpp := (kIs_perm k im ia S.2.2.2.2.2.2.2.2.2.2.2.2.2.2.2 hi3).symm
      rw [hd, ho, kI_some] at hpp
      have G := wo_r hpp G
      refine lv_aload_n hx hb dL_law_910 rfl (lv_at hl 2 rfl) ?_
      refine lv_aload_n hx hb dL_law_911 rfl (lv_at hl 0 rfl) ?_
      refine lv_iload_n hx hb dL_law_912 rfl (lv_at hl 3 rfl) ?_
      refine lv_iconst (v := 1) hx hb dL_law_913 (by decide) ?_
      refine lv_iadd hx hb dL_law_914 ?_
      refine va_sld hx hb hX hbl hbA G.2.2 (li1 hj hL) dL_law_915 ?_
      refine r_top (y := .int v1) (congrArg Value.int hv1) ?_
      refine p_NR (st1 := [.int (bI g.1), .int (bI true)]) (wr := []) (RW := (kHw k qx (ad 0) () ++ ([(ad 0 1, .inl (k 5, 3, .inr (.inr (.inr (.inr (im))))))] ++ (kWd k (ad 0 0) (ad 1) (q.1) ++ (kPl k (ad 1 0) (ad 2) (q.2.1) ++ (kSc k (ad 1 1) (ad 3) (q.2.2.1) ++ (kSk k (ad 1 2) (ad 4) (q.2.2.2.1) ++ (kTp k (ad 1 3) (ad 5) (q.2.2.2.2) ++ (kHi k (ad 0 2) (ad 6) (q2) ++ (kRd k (ad 0 3) (ad 7) (S.2.2.2.2.2.2.2.2.1) ++ (kPl k (ad 7 0) (ad 8) (S.2.2.2.2.2.2.2.2.2.1) ++ (kVw k (ad 0 4) (ad 9) (S.2.2.2.2.2.2.2.2.2.2.1) ++ (kTr k (ad 0 5) (ad 10) (S.2.2.2.2.2.2.2.2.2.2.2.1) ++ (kSc k (ad 10 0) (ad 11) (S.2.2.2.2.2.2.2.2.2.2.2.2.1) ++ (kVw k (ad 10 1) (ad 12) (S.2.2.2.2.2.2.2.2.2.2.2.2.2.1) ++ (kSc k (ad 0 6) (ad 13) (S.2.2.2.2.2.2.2.2.2.2.2.2.2.2.1)))))))))))))))) ++ (wP k ad aHS aHK S ++ kIs k im ia S.2.2.2.2.2.2.2.2.2.2.2.2.2.2.2)) (ws := kMo k qm (ad 14) MO) (ws' := kMo k qm (ad 14) g.2) (run_V (rest := [.int (bI true)]) X (ctX10_again (SZ_ok t) qm (ad 14) hg) mk_X10_again ml_L_125 ⟨(Nat.le_of_ble_eq_true rfl), (Nat.le_of_ble_eq_true rfl)⟩ G [0, 1, 2, 3, 4, 5, 6, 7] rfl rfl 0 rfl rfl rfl hl.1 rfl (Nat.le_of_ble_eq_true rfl) dL_law_916 ⟨by show _ ≤ 600000; omega, by show _ ≤ 7302250; omega⟩) rfl G [0, 1, 2, 3, 4, 5, 6, 7] [] 8 rfl rfl rfl rfl rfl (by decide) (by decide) rfl (fun H locs G => ?_)
      refine lv_icmp_eq (tgt := 924) hx hb dL_law_919 (by decide) (fun _ => ?_) (fun z => absurd (by rw [hgv]) z)
      refine W.widen (k := cells + 20) (n := slots + 1395) (by omega) (by omega) ?_
      exact kk (q.1, q.2.1, q.2.2.1, q.2.2.2.1, q.2.2.2.2, q2, S.2.2.2.2.2.2.1, S.2.2.2.2.2.2.2.1, S.2.2.2.2.2.2.2.2.1, S.2.2.2.2.2.2.2.2.2.1, S.2.2.2.2.2.2.2.2.2.2.1, S.2.2.2.2.2.2.2.2.2.2.2.1, S.2.2.2.2.2.2.2.2.2.2.2.2.1, S.2.2.2.2.2.2.2.2.2.2.2.2.2.1, S.2.2.2.2.2.2.2.2.2.2.2.2.2.2.1, S.2.2.2.2.2.2.2.2.2.2.2.2.2.2.2) g.2 im ia H locs ls hR2 him G hl
  · obtain ⟨g, hg, hgv, hR2⟩ := hB1 (Or.inl hi)
    have G := wo_p2 G
    refine p_R (st1 := [.int (bI false)]) (run_V (rest := []) X (ct_again_out (SZ_ok t) qx hi) mk_X9_again ml_L_122 ⟨(Nat.le_of_ble_eq_true rfl), (Nat.le_of_ble_eq_true rfl)⟩ G [] rfl rfl 0 rfl rfl rfl hl.1 rfl (Nat.le_of_ble_eq_true rfl) dL_law_907 ⟨by show _ ≤ 600000; omega, by show _ ≤ 7302250; omega⟩) rfl ?_
    have G := wo_p2 G
    refine lv_aload_n hx hb dL_law_910 rfl (lv_at hl 2 rfl) ?_
    refine lv_aload_n hx hb dL_law_911 rfl (lv_at hl 0 rfl) ?_
    refine lv_iload_n hx hb dL_law_912 rfl (lv_at hl 3 rfl) ?_
    refine lv_iconst (v := 1) hx hb dL_law_913 (by decide) ?_
    refine lv_iadd hx hb dL_law_914 ?_
    refine va_sld hx hb hX hbl hbA G.2.2 (li1 hj hL) dL_law_915 ?_
    refine r_top (y := .int v1) (congrArg Value.int hv1) ?_
    refine p_NR (st1 := [.int (bI g.1), .int (bI false)]) (wr := []) (RW := wB k qx ad im S ++ (wP k ad aHS aHK S ++ kIs k im ia S.2.2.2.2.2.2.2.2.2.2.2.2.2.2.2)) (ws := kMo k qm (ad 14) MO) (ws' := kMo k qm (ad 14) g.2) (run_V (rest := [.int (bI false)]) X (ctX10_again (SZ_ok t) qm (ad 14) hg) mk_X10_again ml_L_125 ⟨(Nat.le_of_ble_eq_true rfl), (Nat.le_of_ble_eq_true rfl)⟩ G [0, 1, 2, 3, 4, 5, 6, 7] rfl rfl 0 rfl rfl rfl hl.1 rfl (Nat.le_of_ble_eq_true rfl) dL_law_916 ⟨by show _ ≤ 600000; omega, by show _ ≤ 7302250; omega⟩) rfl G [0, 1, 2, 3, 4, 5, 6, 7] [] 8 rfl rfl rfl rfl rfl (by decide) (by decide) rfl (fun H locs G => ?_)
    refine lv_icmp_eq (tgt := 924) hx hb dL_law_919 (by decide) (fun _ => ?_) (fun z => absurd (by rw [hgv]) z)
    refine W.widen (k := cells + 20) (n := slots + 1395) (by omega) (by omega) ?_
    exact kk S g.2 im ia H locs ls hR2 him G hl
