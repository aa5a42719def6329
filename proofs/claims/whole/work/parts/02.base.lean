/-! the words of the tables that pass along every call -/
def gw (w : Cond) : Bool := goodWord w || (match w with | .methodLinkNest _ _ _ _ => true | .arrayOver (.object _) => true | _ => false)
def TB : List Cond := lw_tbl.filter gw
def En (s : State) : Prop := ∀ w ∈ TB, w.before #[] s = true
theorem tb_in {w : Cond} (h : w ∈ lw_tbl) (hg : gw w = true) : w ∈ TB := List.mem_filter.mpr ⟨h, hg⟩
theorem gw_of {w : Cond} (h : w ∈ TB) : ((w.onTables && w.keeps) = true ∨ ∃ ty, w = .arrayClass ty) ∨ (∃ a i x h, w = .methodLinkNest a i x h) ∨ ∃ C, w = .arrayOver (.object C) := by
  have h := (List.mem_filter.mp h).2
  unfold gw at h
  cases hgw : goodWord w with
  | true => exact Or.inl (good_of_word hgw)
  | false =>
    rw [hgw, Bool.false_or] at h
    split at h
    · exact Or.inr (Or.inl ⟨_, _, _, _, rfl⟩)
    · exact Or.inr (Or.inr ⟨_, rfl⟩)
    · cases h
theorem En.here {s U : State} (h : En s) (hW : s.WarmedH U.vm) {w : Cond} (hw : w ∈ TB) (A : Array Value) : w.before A U = true := by
  rcases gw_of hw with hg | ⟨a, i, x, h0, rfl⟩ | ⟨C, rfl⟩
  · exact word_at hW hg (h w hw)
  · exact va_Nw.use rfl (va_Nw.warmM hW (h _ hw))
  · exact va_AO.use (va_AO.moved hW.alike (va_AO.of (h _ hw)))
theorem En.warm {s U : State} (h : En s) (hW : s.WarmedH U.vm) : En U := fun _ hw => h.here hW hw #[]
theorem En.use {s : State} (h : En s) {w : Cond} (hw : w ∈ TB) {A : Array Value} : w.before A s = true := h.here (State.WarmedH.refl s) hw A
theorem En.same {u U : State} (h : En u) (hv : u.vm = U.vm) : En U := h.warm (by rw [← hv]; exact State.WarmedH.refl u)
theorem En.of {s : State} {A : Array Value} (h : ∀ w ∈ lw_tbl, w.before A s = true) : En s := by
  intro w hw
  have h1 := h w (List.mem_filter.mp hw).1
  rcases gw_of hw with hg | ⟨a, i, x, h0, rfl⟩ | ⟨C, rfl⟩
  · exact word_at (State.WarmedH.refl s) hg h1
  · exact va_Nw.of rfl h1
  · exact va_AO.use (va_AO.of h1)
/-! pure programs: a value or none -/
def ix {α : Type} (i : Int32) (n : Nat) (k : Option α) : Option α := if i < 0 ∨ n ≤ i.toNatClampNeg then none else k
def nz {α : Type} (d : Int32) (k : Option α) : Option α := if d = 0 then none else k
def nm {α β : Type} (e : α) (k : α → Option β) : Option β := k e
def bI (b : Bool) : Int32 := if b then 1 else 0
theorem ix_some {α : Type} {i : Int32} {n : Nat} {k : Option α} {r : α} (h : ix i n k = some r) : vp_in i n ∧ k = some r := by
  unfold ix at h
  split at h
  · cases h
  · rename_i q; exact ⟨q, h⟩
theorem ix_in {α : Type} {i : Int32} {n : Nat} {k : Option α} (h : vp_in i n) : ix i n k = k := if_neg h
theorem nz_some {α : Type} {d : Int32} {k : Option α} {r : α} (h : nz d k = some r) : ¬ d = 0 ∧ k = some r := by
  unfold nz at h
  split at h
  · cases h
  · rename_i q; exact ⟨q, h⟩
theorem nm_some {α β : Type} {e : α} {k : α → Option β} {r : β} (h : nm e k = some r) : ∃ x, x = e ∧ k x = some r := ⟨e, rfl, h⟩
theorem bd_some {α β : Type} {x : Option α} {f : α → Option β} {r : β} (h : x.bind f = some r) : ∃ a, x = some a ∧ f a = some r := by
  cases x with
  | none => cases h
  | some a => exact ⟨a, rfl, h⟩
theorem if_t {α : Type} {c : Prop} {i : Decidable c} {a b r : α} (h : @ite α c i a b = r) (hc : c) : a = r := by rw [if_pos hc] at h; exact h
theorem if_f {α : Type} {c : Prop} {i : Decidable c} {a b r : α} (h : @ite α c i a b = r) (hc : ¬ c) : b = r := by rw [if_neg hc] at h; exact h
theorem bI_narrow (b : Bool) : narrow .boolean (.int (bI b)) = .int (bI b) := by cases b <;> rfl
def it {σ ε : Type} (f : σ → Option (σ ⊕ ε)) : Nat → σ → Option ε
  | 0, _ => none
  | n + 1, s => (f s).bind fun o => match o with
    | .inl s' => it f n s'
    | .inr e => some e
theorem it_succ {σ ε : Type} {f : σ → Option (σ ⊕ ε)} {n : Nat} {s : σ} {e : ε} (h : it f (n + 1) s = some e) : (∃ s', f s = some (.inl s') ∧ it f n s' = some e) ∨ f s = some (.inr e) := by
  obtain ⟨o, h1, h2⟩ := bd_some h
  cases o with
  | inl s' => exact Or.inl ⟨s', h1, h2⟩
  | inr e' => cases h2; exact Or.inr h1
theorem it_mono {σ ε : Type} {f : σ → Option (σ ⊕ ε)} {e : ε} : ∀ {n : Nat} {s : σ}, it f n s = some e → it f (n + 1) s = some e
  | 0, _, h => by cases h
  | n + 1, s, h => by
    rcases it_succ h with ⟨s', h1, h2⟩ | h1
    · show (f s).bind _ = some e
      rw [h1]
      exact it_mono h2
    · show (f s).bind _ = some e
      rw [h1]
      rfl
theorem it_le {σ ε : Type} {f : σ → Option (σ ⊕ ε)} {e : ε} {n m : Nat} {s : σ} (hnm : n ≤ m) (h : it f n s = some e) : it f m s = some e := by
  induction hnm with
  | refl => exact h
  | step _ ih => exact it_mono ih
noncomputable def itr {σ ε : Type} (f : σ → Option (σ ⊕ ε)) (s : σ) : Option ε := @dite (Option ε) (∃ (n : Nat) (e : ε), it f n s = some e) (Classical.propDecidable _) (fun h => some h.choose_spec.choose) (fun _ => none)
theorem itr_ex {σ ε : Type} {f : σ → Option (σ ⊕ ε)} {s : σ} {e : ε} (h : itr f s = some e) : ∃ n : Nat, it f n s = some e := by
  unfold itr at h
  split at h
  · rename_i q
    cases h
    exact ⟨_, q.choose_spec.choose_spec⟩
  · cases h
theorem itr_of {σ ε : Type} {f : σ → Option (σ ⊕ ε)} {s : σ} {e : ε} {n : Nat} (h : it f n s = some e) : itr f s = some e := by
  unfold itr
  have q : ∃ (n : Nat) (e : ε), it f n s = some e := ⟨n, e, h⟩
  rw [dif_pos q]
  have h2 := q.choose_spec.choose_spec
  have h3 := it_le (Nat.le_max_left n q.choose) h
  have h4 := it_le (Nat.le_max_right n q.choose) h2
  exact h4.symm.trans h3
theorem itr_inl {σ ε : Type} {f : σ → Option (σ ⊕ ε)} {s s' : σ} (h : f s = some (.inl s')) : itr f s = itr f s' := by
  cases h1 : itr f s' with
  | some e =>
    obtain ⟨n, hn⟩ := itr_ex h1
    exact itr_of (n := n + 1) (by show (f s).bind _ = some e; rw [h]; exact hn)
  | none =>
    cases h2 : itr f s with
    | none => rfl
    | some e =>
      obtain ⟨n, hn⟩ := itr_ex h2
      cases n with
      | zero => cases hn
      | succ n =>
        rcases it_succ hn with ⟨s2, h3, h4⟩ | h3
        · rw [h] at h3
          cases h3
          rw [itr_of h4] at h1
          cases h1
        · rw [h] at h3
          cases h3
theorem itr_inr {σ ε : Type} {f : σ → Option (σ ⊕ ε)} {s : σ} {e : ε} (h : f s = some (.inr e)) : itr f s = some e := itr_of (n := 1) (by show (f s).bind _ = some e; rw [h]; rfl)
/-! worlds -/
def TY (k : Nat → ClassId) : List (ClassId × FieldType) := [(k 0, .int), (k 1, .byte), (k 2, .boolean), (k 3, .object "HangWatch$Scene"), (k 4, .object "HangWatch$Stalls"), (k 5, .object "HangWatch$World")]
def wA (ws : va_W) : Nat → Prop := fun q => q ∈ ws.map Prod.fst
theorem wA_of {ws : va_W} {k : Nat} {q : Nat × va_E} (h : ws[k]? = some q) : wA ws q.1 := List.mem_map.mpr ⟨q, List.mem_of_getElem? h, rfl⟩
theorem wA_ex {ws : va_W} {a : Nat} (h : wA ws a) : ∃ (k : Nat) (q : Nat × va_E), ws[k]? = some q ∧ q.1 = a := by
  obtain ⟨q, h1, h2⟩ := List.mem_map.mp h
  obtain ⟨k, hk⟩ := List.getElem?_of_mem h1
  exact ⟨k, q, hk, h2⟩
theorem va_D.own {A : Nat → Prop} {ws : va_W} (h : va_D A ws) : va_D (wA ws) ws := ⟨h.1, fun _ _ hk => wA_of hk⟩
def Wo (D : va_G) (A : Nat → Prop) (H0 : Heap) (ws : va_W) (H : Heap) (locs : List Loc) : Prop := va_P D vwCl ws H ∧ va_D A ws ∧ va_S A H0 H locs
/-- what else is taken along: said of cells that no method may change -/
abbrev ZT : Type := (Nat → Prop) → State → Prop
def ZOK (Z : ZT) : Prop := (∀ (A B : Nat → Prop) (U : State), (∀ q, B q → A q) → Z A U → Z B U) ∧ ∀ (A : Nat → Prop) (u U : State), u.WarmedH U.vm → (∀ q : Nat, q < u.heap.size → ¬ A q → U.heap[q]? = u.heap[q]?) → Z A u → Z A U
def Pw (D : va_G) (k : Nat → ClassId) (Z : ZT) (as : List Value) (ws : va_W) : Array Value → State → Prop := va_Pc as (fun U => En U ∧ va_K D vwCl (TY k) U ∧ va_P D vwCl ws U.heap ∧ va_D (wA ws) ws ∧ Z (wA ws) U)
theorem Pw.blind {D : va_G} {k : Nat → ClassId} {Z : ZT} (hZ : ZOK Z) {as : List Value} {ws : va_W} : FrameBlind (Pw D k Z as ws) := fun a U g mk q => by
  obtain ⟨q0, qE, qK, qP, qD, qZ⟩ := q
  exact ⟨q0, qE.same rfl, va_K.moved (u := U) (U := U.calling g mk a) (Vm.Alike.refl U.vm) qK, qP, qD, hZ.2 _ U _ (State.WarmedH.refl U) (fun _ _ _ => rfl) qZ⟩
def Qm (D : va_G) (ov : Option Value) (ws ws' : va_W) : Array Value → State → Outcome → State → Prop := fun _ st oc t => oc = .returned ov ∧ va_P D vwCl ws' t.heap ∧ va_F (wA ws) st t
def Qr (ov : Option Value) : Array Value → State → Outcome → State → Prop := fun _ st oc t => oc = .returned ov ∧ t.heap = st.heap
abbrev rmz (fr lo : Nat) : Room := { frames := fr, cells := 0, slots := 0, locals := lo }
def CM (l : Launch) (D : va_G) (k : Nat → ClassId) (Z : ZT) (y : MethodName) (cc : ByteArray) (mL : Nat) (ret : Option FieldType) (fr lo : Nat) (as : List Value) (ov : Option Value) (ws ws' : va_W) : Prop :=
  Met l y [.code y cc mL ret] (rmz fr lo) (Pw D k Z as ws) (Qm D ov ws ws') 0 0 (wA ws)
def CR (l : Launch) (D : va_G) (k : Nat → ClassId) (Z : ZT) (y : MethodName) (cc : ByteArray) (mL : Nat) (ret : Option FieldType) (fr lo : Nat) (as : List Value) (ov : Option Value) (ws : va_W) : Prop :=
  Met l y [.code y cc mL ret] (rmz fr lo) (Pw D k Z as ws) (Qr ov) 0 0 (fun _ => False)
/-- what a walk has at hand -/
def Cx (p : Program) (s : State) (m : MethodId) (meth : Method) (c : Code) (D : va_G) (k : Nat → ClassId) (Z : ZT) (A : Nat → Prop) (cc : ByteArray) (mL : Nat) (ret : Option FieldType) (own : String) : Prop :=
  p.tables.exec = Jvm.exec ∧ c.code = cc ∧ meth.sig.returnType = ret ∧ meth.locks = false ∧ c.maxLocals = mL ∧ s.vm.findClass own = some m.cls ∧ En s ∧ va_K D vwCl (TY k) s ∧ Z A s ∧ ZOK Z
theorem CM.start {l : Launch} {D : va_G} {k : Nat → ClassId} {Z : ZT} {y : MethodName} {cc : ByteArray} {mL : Nat} {ret : Option FieldType} {fr lo : Nat} {as : List Value} {ov : Option Value} {ws ws' : va_W} (hZ : ZOK Z) (hy : plainName y.cls = true) (hn : (lg_sl as).length ≤ mL)
    (body : ∀ (p : Program) (e : Env) (s : State) (m : MethodId) (below : List Frame) (meth : Method) (c : Code) (ls : Array Slot), Cx p s m meth c D k Z (wA ws) cc mL ret y.cls → lv_has ls mL (lv_args 0 as) → Wo D (wA ws) s.heap ws s.heap [] →
      W p l e (rmz fr lo) s m as.toArray below meth c s.heap [] 0 0 (MQ below (Qm D ov ws ws') as.toArray s 0 0 (wA ws)) (F0 m 0 ls [])) : CM l D k Z y cc mL ret fr lo as ov ws ws' := by
  refine Met.ofW (cc := cc) (maxL := mL) (ret := ret) hy rfl ?_
  intro p e s m args below meth c s₁ B hml hv
  obtain ⟨rfl, hE, hK, hP, hD, hz⟩ := hv
  rw [lg_entry_eq]
  exact body p e s m below meth c _ ⟨B.exec, B.bytes, B.returns, B.notSynchronized, hml, findClass_of_methodNamed B.named, hE, hK, hz, hZ⟩ (lv_entry as hn) ⟨hP, hD, va_S.rf⟩
theorem CR.start {l : Launch} {D : va_G} {k : Nat → ClassId} {Z : ZT} {y : MethodName} {cc : ByteArray} {mL : Nat} {ret : Option FieldType} {fr lo : Nat} {as : List Value} {ov : Option Value} {ws : va_W} (hZ : ZOK Z) (hy : plainName y.cls = true) (hn : (lg_sl as).length ≤ mL)
    (body : ∀ (p : Program) (e : Env) (s : State) (m : MethodId) (below : List Frame) (meth : Method) (c : Code) (ls : Array Slot), Cx p s m meth c D k Z (wA ws) cc mL ret y.cls → lv_has ls mL (lv_args 0 as) → Wo D (wA ws) s.heap ws s.heap [] →
      W p l e (rmz fr lo) s m as.toArray below meth c s.heap [] 0 0 (MQ below (Qr ov) as.toArray s 0 0 (fun _ => False)) (F0 m 0 ls [])) : CR l D k Z y cc mL ret fr lo as ov ws := by
  refine Met.ofW (cc := cc) (maxL := mL) (ret := ret) hy rfl ?_
  intro p e s m args below meth c s₁ B hml hv
  obtain ⟨rfl, hE, hK, hP, hD, hz⟩ := hv
  rw [lg_entry_eq]
  exact body p e s m below meth c _ ⟨B.exec, B.bytes, B.returns, B.notSynchronized, hml, findClass_of_methodNamed B.named, hE, hK, hz, hZ⟩ (lv_entry as hn) ⟨hP, hD, va_S.rf⟩
/-! a part of a world replaced in place -/
def rep : va_W → List Nat → va_W → va_W
  | ws, i :: is, x :: xs => rep (ws.set i x) is xs
  | ws, _, _ => ws
theorem rep_at : ∀ (is : List Nat) (ws w1 : va_W), is.length = w1.length → va_nd is = true → ∀ (k : Nat) (q : Nat × va_E), (rep ws is w1)[k]? = some q → (∃ j : Nat, is[j]? = some k ∧ w1[j]? = some q) ∨ (k ∉ is ∧ ws[k]? = some q)
  | [], ws, w1, _, _, k, q, h => Or.inr ⟨List.not_mem_nil, by simpa [rep] using h⟩
  | i :: is, ws, [], hl, _, _, _, _ => by simp at hl
  | i :: is, ws, x :: xs, hl, hn, k, q, h => by
    simp only [va_nd, Bool.and_eq_true, decide_eq_true_eq] at hn
    rcases rep_at is (ws.set i x) xs (by simpa using hl) hn.2 k q h with ⟨j, h1, h2⟩ | ⟨h1, h2⟩
    · exact Or.inl ⟨j + 1, by simpa using h1, by simpa using h2⟩
    · by_cases hki : k = i
      · subst hki
        have hlt : k < ws.length := by
          have h3 := (List.getElem?_eq_some_iff.mp h2).1
          simpa using h3
        rw [List.getElem?_set_self hlt] at h2
        exact Or.inl ⟨0, rfl, h2⟩
      · rw [List.getElem?_set_ne (Ne.symm hki)] at h2
        exact Or.inr ⟨fun z => by rcases List.mem_cons.mp z with z | z <;> contradiction, h2⟩
theorem sub_at {ws wc : va_W} {is : List Nat} (hC : is.map (fun i => ws[i]?) = wc.map some) {j : Nat} {q : Nat × va_E} (h : wc[j]? = some q) : ∃ i, is[j]? = some i ∧ ws[i]? = some q := by
  have h1 : (is.map (fun i => ws[i]?))[j]? = some (some q) := by rw [hC, List.getElem?_map, h]; rfl
  rw [List.getElem?_map] at h1
  cases hi : is[j]? with
  | none => rw [hi] at h1; cases h1
  | some i => rw [hi] at h1; exact ⟨i, rfl, Option.some.inj h1⟩
theorem rep_ok {A : Nat → Prop} {D : va_G} {ws wc w1 : va_W} {H H1 : Heap} (hP : va_P D vwCl ws H) (hD : va_D A ws) (is : List Nat) (hC : is.map (fun i => ws[i]?) = wc.map some) (hn : va_nd is = true) (ha : w1.map Prod.fst = wc.map Prod.fst)
    (hk : ∀ q : Nat, q < H.size → ¬ wA wc q → H1[q]? = H[q]?) (hP1 : va_P D vwCl w1 H1) : va_P D vwCl (rep ws is w1) H1 ∧ va_D A (rep ws is w1) := by
  have hl : is.length = w1.length := by
    have h1 := congrArg List.length hC
    have h2 := congrArg List.length ha
    simp only [List.length_map] at h1 h2
    omega
  have adr : ∀ (k : Nat) (q : Nat × va_E), (rep ws is w1)[k]? = some q → ∃ q0 : Nat × va_E, ws[k]? = some q0 ∧ q0.1 = q.1 := by
    intro k q hq
    rcases rep_at is ws w1 hl hn k q hq with ⟨j, h1, h2⟩ | ⟨-, h2⟩
    · have h3 : (wc.map Prod.fst)[j]? = some q.1 := by rw [← ha, List.getElem?_map, h2]; rfl
      rw [List.getElem?_map] at h3
      cases h4 : wc[j]? with
      | none => rw [h4] at h3; cases h3
      | some q0 =>
        rw [h4] at h3
        obtain ⟨i, h5, h6⟩ := sub_at hC h4
        rw [h1] at h5
        cases h5
        exact ⟨q0, h6, Option.some.inj h3⟩
    · exact ⟨q, h2, rfl⟩
  refine ⟨fun k q hq => ?_, ⟨fun i j x y hi hj hxy => ?_, fun k q hq => ?_⟩⟩
  · rcases rep_at is ws w1 hl hn k q hq with ⟨j, h1, h2⟩ | ⟨h1, h2⟩
    · exact hP1 j q h2
    · have h3 := hP k q h2
      refine h3.kept (hk q.1 h3.lt (fun z => ?_))
      obtain ⟨j, q1, h4, h5⟩ := wA_ex z
      obtain ⟨i, h6, h7⟩ := sub_at hC h4
      have h8 := hD.1 i k q1 q h7 h2 h5
      subst h8
      exact h1 (List.mem_of_getElem? h6)
  · obtain ⟨x0, h1, h2⟩ := adr i x hi
    obtain ⟨y0, h3, h4⟩ := adr j y hj
    exact hD.1 i j x0 y0 h1 h3 (h2.trans (hxy.trans h4.symm))
  · obtain ⟨q0, h1, h2⟩ := adr k q hq
    rw [← h2]
    exact hD.2 k q0 h1
section BW
variable {p : Program} {l : Launch} {e : Env} {R : Room} {s : State} {m : MethodId} {args : Array Value} {below : List Frame} {meth : Method} {c : Code} {H : Heap} {locs : List Loc} {cells slots : Nat} {Q : State → Prop}
variable {D : va_G} {k : Nat → ClassId} {Z : ZT} {cc : ByteArray} {mL : Nat} {ret : Option FieldType} {own : String} {A : Nat → Prop} {ws ws' : va_W} {pc a : Nat} {ls : Array Slot} {rest : List Value}
theorem r_top {x y : Value} (h : y = x) (kk : W p l e R s m args below meth c H locs cells slots Q (F0 m pc ls (y :: rest))) : W p l e R s m args below meth c H locs cells slots Q (F0 m pc ls (x :: rest)) := by subst h; exact kk
theorem r_get {C : String} {T : u_T} {N ci index : Nat} (X : Cx p s m meth c D k Z A cc mL ret own) (hin : ∀ w ∈ u_ws C T N, w ∈ TB) (G : Wo D A s.heap ws H locs) (q0 : Nat) {fs : List Value} (he : ws[q0]? = some (a, .inr (ci, fs))) (hc : vwCl[ci]? = some (C, T, N)) (j : Nat) (hj : j < N) (hlink : Cond.fieldLink own index (T j).1 (T j).2.1 (T j).2.2.1 ∈ TB) {v : Value} (hv : fs[j]? = some v) (hdg : decode cc pc = .ok (.getfield index, 3))
    (kk : W p l e R s m args below meth c H locs cells slots Q (F0 m (pc + 3) ls (v :: rest))) : W p l e R s m args below meth c H locs cells slots Q (F0 m pc ls (.ref a :: rest)) :=
  va_get X.1 X.2.1 (Ts := TB) (fun w hw => X.2.2.2.2.2.2.1.use hw) hin X.2.2.2.2.2.1 X.2.2.2.2.2.2.2.1 G.1 q0 he hc j hj (X.2.2.2.2.2.2.1.use hlink) (fun _ h => h) hv hdg kk
theorem r_put {C : String} {T : u_T} {N ci index : Nat} (X : Cx p s m meth c D k Z A cc mL ret own) (hin : ∀ w ∈ u_ws C T N, w ∈ TB) (ty0 : Nat → FieldType) (hty : ∀ k, k < N → parseFieldDescriptor (T k).2.2.1 = some (ty0 k)) (hnm : ∀ a, a < N → ∀ b, b < N → a ≠ b → (T a).2.1 ≠ (T b).2.1) (G : Wo D A s.heap ws H locs) (q0 : Nat) {fs : List Value} (he : ws[q0]? = some (a, .inr (ci, fs))) (hc : vwCl[ci]? = some (C, T, N)) (j : Nat) (hj : j < N) (hlink : Cond.fieldLink own index (T j).1 (T j).2.1 (T j).2.2.1 ∈ TB) (hfin : (T j).2.2.2 = false) {v : Value} (hn : narrow (ty0 j) v = v) (hfit : fits (ty0 j) v = true) (hl : j < fs.length) (hw : ws.set q0 (a, .inr (ci, fs.set j v)) = ws') (hdg : decode cc pc = .ok (.putfield index, 3))
    (kk : ∀ (H1 : Heap) (locs1 : List Loc), Wo D A s.heap ws' H1 locs1 → W p l e R s m args below meth c H1 locs1 cells slots Q (F0 m (pc + 3) ls rest)) : W p l e R s m args below meth c H locs cells slots Q (F0 m pc ls (v :: .ref a :: rest)) := by
  subst hw
  exact va_put X.1 X.2.1 (Ts := TB) (fun w hw => X.2.2.2.2.2.2.1.use hw) hin ty0 hty hnm X.2.2.2.2.2.1 X.2.2.2.2.2.2.2.1 G.1 G.2.1 G.2.2 q0 he hc j hj (X.2.2.2.2.2.2.1.use hlink) (fun _ h => h) hfin (hty j hj) hn hfit hl hdg (fun H1 locs1 h1 h2 h3 => kk H1 locs1 ⟨h1, h2, h3⟩)
theorem r_iald (X : Cx p s m meth c D k Z A cc mL ret own) (G : Wo D A s.heap ws H locs) (q0 : Nat) {n : Nat} {f : Nat → Int32} (ha : ws[q0]? = some (a, .inl (k 0, n, .inl f))) {i : Int32} (hin : vp_in i n) (hdg : decode cc pc = .ok (.iaload, 1))
    (kk : W p l e R s m args below meth c H locs cells slots Q (F0 m (pc + 1) ls (.int (f i.toNatClampNeg) :: rest))) : W p l e R s m args below meth c H locs cells slots Q (F0 m pc ls (.int i :: .ref a :: rest)) :=
  va_iald X.1 X.2.1 X.2.2.2.2.2.2.2.1 G.1 q0 0 ha rfl hin hdg kk
theorem r_bald (X : Cx p s m meth c D k Z A cc mL ret own) (G : Wo D A s.heap ws H locs) (q0 : Nat) {n : Nat} {f : Nat → Int32} (ha : ws[q0]? = some (a, .inl (k 1, n, .inl f))) {i : Int32} (hin : vp_in i n) (hdg : decode cc pc = .ok (.baload, 1))
    (kk : W p l e R s m args below meth c H locs cells slots Q (F0 m (pc + 1) ls (.int (f i.toNatClampNeg) :: rest))) : W p l e R s m args below meth c H locs cells slots Q (F0 m pc ls (.int i :: .ref a :: rest)) :=
  va_bald X.1 X.2.1 X.2.2.2.2.2.2.2.1 G.1 q0 1 ha rfl hin hdg kk
theorem r_zald (X : Cx p s m meth c D k Z A cc mL ret own) (G : Wo D A s.heap ws H locs) (q0 : Nat) {n : Nat} {f : Nat → Int32} (ha : ws[q0]? = some (a, .inl (k 2, n, .inl f))) {i : Int32} (hin : vp_in i n) (hdg : decode cc pc = .ok (.baload, 1))
    (kk : W p l e R s m args below meth c H locs cells slots Q (F0 m (pc + 1) ls (.int (f i.toNatClampNeg) :: rest))) : W p l e R s m args below meth c H locs cells slots Q (F0 m pc ls (.int i :: .ref a :: rest)) :=
  va_zald X.1 X.2.1 X.2.2.2.2.2.2.2.1 G.1 q0 2 ha rfl hin hdg kk
theorem r_iast (X : Cx p s m meth c D k Z A cc mL ret own) (G : Wo D A s.heap ws H locs) (q0 : Nat) {n : Nat} {f : Nat → Int32} (ha : ws[q0]? = some (a, .inl (k 0, n, .inl f))) {i x : Int32} (hin : vp_in i n) (hw : ws.set q0 (a, .inl (k 0, n, .inl (upd f i.toNatClampNeg x))) = ws') (hdg : decode cc pc = .ok (.iastore, 1))
    (kk : ∀ (H1 : Heap) (locs1 : List Loc), Wo D A s.heap ws' H1 locs1 → W p l e R s m args below meth c H1 locs1 cells slots Q (F0 m (pc + 1) ls rest)) : W p l e R s m args below meth c H locs cells slots Q (F0 m pc ls (.int x :: .int i :: .ref a :: rest)) := by
  subst hw
  exact va_iast X.1 X.2.1 X.2.2.2.2.2.2.2.1 G.1 G.2.1 G.2.2 q0 0 ha rfl hin hdg (fun H1 locs1 h1 h2 h3 => kk H1 locs1 ⟨h1, h2, h3⟩)
theorem r_bast (X : Cx p s m meth c D k Z A cc mL ret own) (G : Wo D A s.heap ws H locs) (q0 : Nat) {n : Nat} {f : Nat → Int32} (ha : ws[q0]? = some (a, .inl (k 1, n, .inl f))) {i x : Int32} (hin : vp_in i n) (hw : ws.set q0 (a, .inl (k 1, n, .inl (upd f i.toNatClampNeg (vp_nar .byte x)))) = ws') (hdg : decode cc pc = .ok (.bastore, 1))
    (kk : ∀ (H1 : Heap) (locs1 : List Loc), Wo D A s.heap ws' H1 locs1 → W p l e R s m args below meth c H1 locs1 cells slots Q (F0 m (pc + 1) ls rest)) : W p l e R s m args below meth c H locs cells slots Q (F0 m pc ls (.int x :: .int i :: .ref a :: rest)) := by
  subst hw
  exact va_bast X.1 X.2.1 X.2.2.2.2.2.2.2.1 G.1 G.2.1 G.2.2 q0 1 ha rfl hin hdg (fun H1 locs1 h1 h2 h3 => kk H1 locs1 ⟨h1, h2, h3⟩)
theorem r_zast (X : Cx p s m meth c D k Z A cc mL ret own) (G : Wo D A s.heap ws H locs) (q0 : Nat) {n : Nat} {f : Nat → Int32} (ha : ws[q0]? = some (a, .inl (k 2, n, .inl f))) {i x : Int32} (hin : vp_in i n) (hw : ws.set q0 (a, .inl (k 2, n, .inl (upd f i.toNatClampNeg (vp_nar .boolean x)))) = ws') (hdg : decode cc pc = .ok (.bastore, 1))
    (kk : ∀ (H1 : Heap) (locs1 : List Loc), Wo D A s.heap ws' H1 locs1 → W p l e R s m args below meth c H1 locs1 cells slots Q (F0 m (pc + 1) ls rest)) : W p l e R s m args below meth c H locs cells slots Q (F0 m pc ls (.int x :: .int i :: .ref a :: rest)) := by
  subst hw
  exact va_zast X.1 X.2.1 X.2.2.2.2.2.2.2.1 G.1 G.2.1 G.2.2 q0 2 ha rfl hin hdg (fun H1 locs1 h1 h2 h3 => kk H1 locs1 ⟨h1, h2, h3⟩)
theorem r_alen (X : Cx p s m meth c D k Z A cc mL ret own) (G : Wo D A s.heap ws H locs) (q0 t0 : Nat) {cA : ClassId} {x : vp_A} (ha : ws[q0]? = some (a, .inl (cA, x))) {ty : FieldType} (ht : (TY k)[t0]? = some (cA, ty)) {v : Int32} (hv : Int32.ofNat x.1 = v) (hdg : decode cc pc = .ok (.arraylength, 1))
    (kk : W p l e R s m args below meth c H locs cells slots Q (F0 m (pc + 1) ls (.int v :: rest))) : W p l e R s m args below meth c H locs cells slots Q (F0 m pc ls (.ref a :: rest)) :=
  va_alen X.1 X.2.1 X.2.2.2.2.2.2.2.1 G.1 q0 t0 ha ht hv hdg kk
/-! ends -/
variable {ov : Option Value} {w0 : va_W}
theorem e_mi {v : Int32} (X : Cx p s m meth c D k Z A cc mL (some .int) own) (G : Wo D (wA w0) s.heap ws H locs) (hdg : decode cc pc = .ok (.ireturn, 1)) : W p l e R s m args below meth c H locs cells slots (MQ below (Qm D (some (.int v)) w0 ws) args s cells slots (wA w0)) (F0 m pc ls [.int v]) :=
  W.iret X.1 X.2.1 X.2.2.1 (fun t ht _ => ⟨rfl, by rw [ht]; exact G.1, G.2.2.F ht⟩) G.2.2.2.2 hdg X.2.2.2.1
theorem e_mz {v : Int32} (b : Bool) (hv : bI b = v) (X : Cx p s m meth c D k Z A cc mL (some .boolean) own) (G : Wo D (wA w0) s.heap ws H locs) (hdg : decode cc pc = .ok (.ireturn, 1)) : W p l e R s m args below meth c H locs cells slots (MQ below (Qm D (some (.int (bI b))) w0 ws) args s cells slots (wA w0)) (F0 m pc ls [.int v]) := by
  subst hv
  exact W.zret X.1 X.2.1 X.2.2.1 (bI_narrow b) (fun t ht _ => ⟨rfl, by rw [ht]; exact G.1, G.2.2.F ht⟩) G.2.2.2.2 hdg X.2.2.2.1
theorem e_mv (X : Cx p s m meth c D k Z A cc mL none own) (G : Wo D (wA w0) s.heap ws H locs) (hdg : decode cc pc = .ok (.return_, 1)) : W p l e R s m args below meth c H locs cells slots (MQ below (Qm D none w0 ws) args s cells slots (wA w0)) (F0 m pc ls []) :=
  W.vret X.1 X.2.1 X.2.2.1 (fun t ht _ => ⟨rfl, by rw [ht]; exact G.1, G.2.2.F ht⟩) G.2.2.2.2 hdg X.2.2.2.1
theorem e_ri {v : Int32} (X : Cx p s m meth c D k Z A cc mL (some .int) own) (hdg : decode cc pc = .ok (.ireturn, 1)) : W p l e R s m args below meth c s.heap [] cells slots (MQ below (Qr (some (.int v))) args s cells slots (fun _ => False)) (F0 m pc ls [.int v]) :=
  W.iret X.1 X.2.1 X.2.2.1 (fun t ht _ => ⟨rfl, ht⟩) (fun _ h => by cases h) hdg X.2.2.2.1
theorem e_rz {v : Int32} (b : Bool) (hv : bI b = v) (X : Cx p s m meth c D k Z A cc mL (some .boolean) own) (hdg : decode cc pc = .ok (.ireturn, 1)) : W p l e R s m args below meth c s.heap [] cells slots (MQ below (Qr (some (.int (bI b)))) args s cells slots (fun _ => False)) (F0 m pc ls [.int v]) := by
  subst hv
  exact W.zret X.1 X.2.1 X.2.2.1 (bI_narrow b) (fun t ht _ => ⟨rfl, ht⟩) (fun _ h => by cases h) hdg X.2.2.2.1
theorem e_rv (X : Cx p s m meth c D k Z A cc mL none own) (hdg : decode cc pc = .ok (.return_, 1)) : W p l e R s m args below meth c s.heap [] cells slots (MQ below (Qr none) args s cells slots (fun _ => False)) (F0 m pc ls []) :=
  W.vret X.1 X.2.1 X.2.2.1 (fun t ht _ => ⟨rfl, ht⟩) (fun _ h => by cases h) hdg X.2.2.2.1
/-! calls -/
variable {y : MethodName} {bytes : ByteArray} {mLy n index fr lo : Nat} {rety : Option FieldType} {As rest' st0 st1 : List Value} {wc wc' : va_W} {b : Nat}
/-- what the tables have of a method: virtual, static -/
def MV (y : MethodName) (bytes : ByteArray) (mLy : Nat) (rety : Option FieldType) (n : Nat) : Prop := Cond.code y bytes mLy rety ∈ TB ∧ Cond.initialized y.cls ∈ TB ∧ Cond.instanceMethod y ∈ TB ∧ Cond.selects y.cls y y ∈ TB ∧ (y.cls ≠ "java/lang/invoke/MethodHandle" ∧ y.cls ≠ "java/lang/invoke/VarHandle") ∧ (parseMethodDescriptor y.desc).map (fun d => d.parameters.length) = some n
def MS (y : MethodName) (bytes : ByteArray) (mLy : Nat) (rety : Option FieldType) (n : Nat) : Prop := Cond.code y bytes mLy rety ∈ TB ∧ Cond.initialized y.cls ∈ TB ∧ Cond.static y ∈ TB ∧ True ∧ (y.cls ≠ "java/lang/invoke/MethodHandle" ∧ y.cls ≠ "java/lang/invoke/VarHandle") ∧ (parseMethodDescriptor y.desc).map (fun d => d.parameters.length) = some n
theorem len_of {y : MethodName} {n : Nat} (h : (parseMethodDescriptor y.desc).map (fun d => d.parameters.length) = some n) : ∀ sig, parseMethodDescriptor y.desc = some sig → n = sig.parameters.length := fun sig h2 => by
  rw [h2] at h
  exact (Option.some.inj h).symm
theorem code_pay (hE : En s) (h : Cond.code y bytes mLy rety ∈ TB) : ∀ w ∈ [Cond.code y bytes mLy rety], ∀ (a' : Array Value) (U : State), s.WarmedH U.vm → w.before a' U = true := fun w hw a' U hW => by
  rcases List.mem_singleton.mp hw with rfl
  exact hE.here hW h a'
theorem cb_of (hE : En s) (hM : Cond.code y bytes mLy rety ∈ TB ∧ Cond.initialized y.cls ∈ TB) (hd : (y.cls ≠ "java/lang/invoke/MethodHandle" ∧ y.cls ≠ "java/lang/invoke/VarHandle") ∧ (parseMethodDescriptor y.desc).map (fun d => d.parameters.length) = some n) (hl : Cond.methodLink own index y ∈ TB) (hR : fr + 1 ≤ R.frames ∧ 8 + (mLy + 11) + lo ≤ R.locals) : CallB R s args own index y bytes mLy rety [.code y bytes mLy rety] (rmz fr lo) 0 0 n :=
  ⟨rfl, rfl, hR.1, hR.2, code_pay hE hM.1, List.mem_singleton.mpr rfl, hE.use hM.1, hE.use hM.2, hd.1, len_of hd.2, hE.use hl⟩
theorem pw_at (X : Cx p s m meth c D k Z A cc mL ret own) (G : Wo D A s.heap ws H locs) (is : List Nat) (hC : is.map (fun i => ws[i]?) = wc.map some) (hn : va_nd is = true) {as : List Value} : ∀ U : State, U.heap = H → s.WarmedH U.vm → Pw D k Z as wc as.toArray U := fun U hU hW => by
  refine ⟨rfl, X.2.2.2.2.2.2.1.warm hW, va_K.moved hW.alike X.2.2.2.2.2.2.2.1, fun k q hk => ?_, (G.2.1.sub is hn hC).own, X.2.2.2.2.2.2.2.2.2.1 A _ U (fun q h => ?_) (X.2.2.2.2.2.2.2.2.2.2 A s U hW (fun q h1 h2 => by rw [hU]; exact G.2.2.2.1 q h1 h2) X.2.2.2.2.2.2.2.2.1)⟩
  · rw [hU]
    obtain ⟨i, -, h2⟩ := sub_at hC hk
    exact G.1 i q h2
  · obtain ⟨j, q1, h4, h5⟩ := wA_ex h
    obtain ⟨i, h6, h7⟩ := sub_at hC h4
    rw [← h5]
    exact G.2.1.2 i q1 h7
theorem p_R (hr : va_Run p l e R s m args below meth c H locs cells slots 0 0 (F0 m pc ls st0) rest (Qr ov (As.toArray)) (fun _ => False)) (hst : ov.toList ++ rest = st1)
    (kk : W p l e R s m args below meth c H locs cells slots Q (F0 m (pc + 3) ls st1)) : W p l e R s m args below meth c H locs cells slots Q (F0 m pc ls st0) := by
  intro T hT X
  obtain ⟨v, st₀, t, T', L, h0, X', hL, e1, e2, ⟨hv, hh⟩, st⟩ := hr T hT X
  cases hv
  subst hst
  obtain ⟨t2, a1, b1⟩ := kk T' (by rw [e1, hh, h0]) (Stand.forget X' (fun q h => (hL q h).elim))
  exact ⟨t2, st t2 a1, b1⟩
theorem p_M (hr : va_Run p l e R s m args below meth c H locs cells slots 0 0 (F0 m pc ls st0) rest (Qm D ov wc wc' (As.toArray)) (wA wc)) (hst : ov.toList ++ rest = st1) (G : Wo D A s.heap ws H locs) (is : List Nat) (hC : is.map (fun i => ws[i]?) = wc.map some) (hn : va_nd is = true) (ha : wc'.map Prod.fst = wc.map Prod.fst) (hw : rep ws is wc' = ws')
    (kk : ∀ (H1 : Heap) (locs1 : List Loc), Wo D A s.heap ws' H1 locs1 → W p l e R s m args below meth c H1 locs1 cells slots Q (F0 m (pc + 3) ls st1)) : W p l e R s m args below meth c H locs cells slots Q (F0 m pc ls st0) := by
  subst hw
  have hF : ∀ q, wA wc q → A q := fun q h => by
    obtain ⟨j, q1, h4, h5⟩ := wA_ex h
    obtain ⟨i, h6, h7⟩ := sub_at hC h4
    rw [← h5]
    exact G.2.1.2 i q1 h7
  intro T hT X
  obtain ⟨v, st₀, t, T', L, h0, X', hL, e1, e2, ⟨hv, hp, hz, hk⟩, st⟩ := hr T hT X
  cases hv
  subst hst
  rw [h0] at hz hk
  rw [← e1] at hz hp
  have hk : ∀ q : Nat, q < H.size → ¬ wA wc q → T'.heap[q]? = H[q]? := fun q h1 h2 => by rw [e1]; exact hk q h1 h2
  obtain ⟨g1, g2⟩ := rep_ok G.1 G.2.1 is hC hn ha hk hp
  obtain ⟨t2, a1, b1⟩ := kk T'.heap (locs ++ L) ⟨g1, g2, Nat.le_trans G.2.2.1 hz, fun q h1 h2 => by rw [hk q (Nat.lt_of_lt_of_le h1 G.2.2.1) (fun z => h2 (hF q z))]; exact G.2.2.2.1 q h1 h2, fun q hq => by
      rcases List.mem_append.mp hq with h | h
      · exact G.2.2.2.2 q h
      · exact hF _ (hL q h)⟩ T' rfl X'
  exact ⟨t2, st t2 a1, b1⟩
theorem run_V (X : Cx p s m meth c D k Z A cc mL ret own) {Qc : Array Value → State → Outcome → State → Prop} {free : Nat → Prop} (hC : Met l y [.code y bytes mLy rety] (rmz fr lo) (Pw D k Z (.ref b :: As) wc) Qc 0 0 free) (hM : MV y bytes mLy rety n) (hl : Cond.methodLink own index y ∈ TB) (hR : fr + 1 ≤ R.frames ∧ 8 + (mLy + 11) + lo ≤ R.locals) (G : Wo D A s.heap ws H locs) (is : List Nat) (hs : is.map (fun i => ws[i]?) = wc.map some) (hn : va_nd is = true)
    (q0 : Nat) {ci : Nat} {fs : List Value} {T : u_T} {N : Nat} (he : ws[q0]? = some (b, .inr (ci, fs))) (hc : vwCl[ci]? = some (y.cls, T, N)) (hAs : As.length = n) (hsz : ls.size = mL) (hst : st0 = As.reverse ++ .ref b :: rest) (hW : (rest.map fun v => v.category).sum ≤ 8) (hdg : decode cc pc = .ok (.invokevirtual index, 3)) (hf : cells ≤ R.cells ∧ slots ≤ R.slots) :
    va_Run p l e R s m args below meth c H locs cells slots 0 0 (F0 m pc ls st0) rest (Qc (Value.ref b :: As).toArray) free := by
  exact va_runV (Ts := TB) ⟨X.1, X.2.1, X.2.2.2.2.1, X.2.2.2.2.2.1, fun w hw => X.2.2.2.2.2.2.1.use hw⟩ hC ⟨cb_of X.2.2.2.2.2.2.1 ⟨hM.1, hM.2.1⟩ hM.2.2.2.2 hl hR, X.2.2.2.2.2.2.1.use hM.2.2.1, X.2.2.2.2.2.2.1.use hM.2.2.2.1⟩ ⟨Pw.blind X.2.2.2.2.2.2.2.2.2, va_recv X.2.2.2.2.2.2.2.1 G.1 hc he, pw_at X G is hs hn⟩ rfl hAs hsz hst (lv_room hW) hdg hf
theorem run_S (X : Cx p s m meth c D k Z A cc mL ret own) {Qc : Array Value → State → Outcome → State → Prop} {free : Nat → Prop} (hC : Met l y [.code y bytes mLy rety] (rmz fr lo) (Pw D k Z As wc) Qc 0 0 free) (hM : MS y bytes mLy rety n) (hl : Cond.methodLink own index y ∈ TB) (hR : fr + 1 ≤ R.frames ∧ 8 + (mLy + 11) + lo ≤ R.locals) (G : Wo D A s.heap ws H locs) (is : List Nat) (hs : is.map (fun i => ws[i]?) = wc.map some) (hn : va_nd is = true)
    (hAs : As.length = n) (hsz : ls.size = mL) (hst : st0 = As.reverse ++ rest) (hW : (rest.map fun v => v.category).sum ≤ 8) (hdg : decode cc pc = .ok (.invokestatic index, 3)) (hf : cells ≤ R.cells ∧ slots ≤ R.slots) :
    va_Run p l e R s m args below meth c H locs cells slots 0 0 (F0 m pc ls st0) rest (Qc As.toArray) free := by
  exact va_runS (Ts := TB) ⟨X.1, X.2.1, X.2.2.2.2.1, X.2.2.2.2.2.1, fun w hw => X.2.2.2.2.2.2.1.use hw⟩ hC ⟨cb_of X.2.2.2.2.2.2.1 ⟨hM.1, hM.2.1⟩ hM.2.2.2.2 hl hR, X.2.2.2.2.2.2.1.use hM.2.2.1⟩ ⟨Pw.blind X.2.2.2.2.2.2.2.2.2, pw_at X G is hs hn⟩ rfl hAs hsz hst (lv_room hW) hdg hf
theorem run_N {host : String} (X : Cx p s m meth c D k Z A cc mL ret own) {Qc : Array Value → State → Outcome → State → Prop} {free : Nat → Prop} (hC : Met l y [.code y bytes mLy rety] (rmz fr lo) (Pw D k Z As wc) Qc 0 0 free) (hM : MS y bytes mLy rety n) (hl : Cond.methodLinkNest own index y host ∈ TB) (hR : fr + 1 ≤ R.frames ∧ 8 + (mLy + 11) + lo ≤ R.locals) (G : Wo D A s.heap ws H locs) (is : List Nat) (hs : is.map (fun i => ws[i]?) = wc.map some) (hn : va_nd is = true)
    (hAs : As.length = n) (hsz : ls.size = mL) (hst : st0 = As.reverse ++ rest) (hW : (rest.map fun v => v.category).sum ≤ 8) (hdg : decode cc pc = .ok (.invokestatic index, 3)) (hf : cells ≤ R.cells ∧ slots ≤ R.slots) :
    va_Run p l e R s m args below meth c H locs cells slots 0 0 (F0 m pc ls st0) rest (Qc As.toArray) free := by
  have hE := X.2.2.2.2.2.2.1
  exact va_runSN (Ts := TB) ⟨X.1, X.2.1, X.2.2.2.2.1, X.2.2.2.2.2.1, fun w hw => hE.use hw⟩ hC ⟨⟨⟨rfl, rfl, hR.1, hR.2, code_pay hE hM.1, List.mem_singleton.mpr rfl⟩, hE.use hM.1, hE.use hM.2.1, hM.2.2.2.2.1, len_of hM.2.2.2.2.2, hE.use hl⟩, hE.use hM.2.2.1, trivial⟩ ⟨Pw.blind X.2.2.2.2.2.2.2.2.2, pw_at X G is hs hn⟩ rfl hAs hsz hst (lv_room hW) hdg hf
/-! a switch -/
theorem r_tsw (X : Cx p s m meth c D k Z A cc mL ret own) {dflt lo' hi' : Int} {offs : Array Int} {len : Nat} {x : Int32} {tgt : Nat} (hdg : decode cc pc = .ok (.tableswitch dflt lo' hi' offs, len)) (ht : (pc : Int) + (if x.toInt < lo' ∨ hi' < x.toInt then dflt else (offs[(x.toInt - lo').toNat]?).getD 0) = (tgt : Int)) (ho : ¬ (x.toInt < lo' ∨ hi' < x.toInt) → (offs[(x.toInt - lo').toNat]?).isSome)
    (kk : W p l e R s m args below meth c H locs cells slots Q (F0 m tgt ls rest)) : W p l e R s m args below meth c H locs cells slots Q (F0 m pc ls (.int x :: rest)) := by
  by_cases hq : x.toInt < lo' ∨ hi' < x.toInt
  · rw [if_pos hq] at ht
    exact lv_tableOut X.1 X.2.1 hdg hq ht kk
  · rw [if_neg hq] at ht
    obtain ⟨off, h1⟩ := Option.isSome_iff_exists.mp (ho hq)
    rw [h1] at ht
    exact lv_tableIn X.1 X.2.1 hdg (fun h => hq (Or.inl h)) (fun h => hq (Or.inr h)) h1 ht kk
end BW
theorem it_bd {σ ε : Type} {f : σ → Option (σ ⊕ ε)} {n : Nat} {s : σ} {e : ε} (h : it f (n + 1) s = some e) : ∃ o, f s = some o ∧ Sum.elim (it f n) some o = some e := by
  obtain ⟨o, h1, h2⟩ := bd_some h
  cases o with
  | inl s' => exact ⟨_, h1, h2⟩
  | inr e' => exact ⟨_, h1, h2⟩
theorem it_out {σ ε : Type} {g : σ → Option ε} {e x : ε} (h : Sum.elim g some (Sum.inr e) = some x) : x = e := (Option.some.inj h).symm
theorem sl_l {α β γ : Type} {f : α → γ} {g : β → γ} {u : α} {r : γ} (h : Sum.elim f g (Sum.inl u) = r) : f u = r := h
theorem sl_r {α β γ : Type} {f : α → γ} {g : β → γ} {u : β} {r : γ} (h : Sum.elim f g (Sum.inr u) = r) : g u = r := h
theorem tsw_d {x : Int32} {lo' hi' dflt : Int} {offs : Array Int} (ks : List Int32) (hne : ∀ k ∈ ks, ¬ x = k) (n : Nat) (hn : (n : Int) = hi' - lo') (hchk : ∀ j : Nat, j ≤ n → offs[j]? = some dflt ∨ Int32.ofInt (lo' + j) ∈ ks) :
    (if x.toInt < lo' ∨ hi' < x.toInt then dflt else (offs[(x.toInt - lo').toNat]?).getD 0) = dflt ∧ (¬ (x.toInt < lo' ∨ hi' < x.toInt) → (offs[(x.toInt - lo').toNat]?).isSome) := by
  by_cases hq : x.toInt < lo' ∨ hi' < x.toInt
  · exact ⟨if_pos hq, fun h => absurd hq h⟩
  · have h1 : (x.toInt - lo').toNat ≤ n := by omega
    have h2 : lo' + ((x.toInt - lo').toNat : Int) = x.toInt := by omega
    rcases hchk _ h1 with h | h
    · rw [if_neg hq, h]
      exact ⟨rfl, fun _ => rfl⟩
    · rw [h2, Int32.ofInt_toInt] at h
      exact absurd rfl (hne _ h)
