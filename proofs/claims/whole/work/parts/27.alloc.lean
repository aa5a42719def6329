def PwN (D : va_G) (k : Nat → ClassId) (Z : ZT) (as : List Value) (ws : va_W) (sz : Nat) : Array Value → State → Prop := va_Pc as (fun U => U.heap.size = sz ∧ En U ∧ va_K D vwCl (TY k) U ∧ va_P D vwCl ws U.heap ∧ va_D (wA ws) ws ∧ Z (va_A ws sz) U)
theorem PwN.blind {D : va_G} {k : Nat → ClassId} {Z : ZT} (hZ : ZOK Z) {as : List Value} {ws : va_W} {sz : Nat} : FrameBlind (PwN D k Z as ws sz) := fun a U g mk q => by
  obtain ⟨q0, qs, qE, qK, qP, qD, qZ⟩ := q
  exact ⟨q0, qs, qE.same rfl, va_K.moved (u := U) (U := U.calling g mk a) (Vm.Alike.refl U.vm) qK, qP, qD, hZ.2 _ U _ (State.WarmedH.refl U) (fun _ _ _ => rfl) qZ⟩
def QnN (D : va_G) (ov : Option Value) (ws : va_W) (sz : Nat) (Y : va_W → Prop) : Array Value → State → Outcome → State → Prop := fun _ st oc t => oc = .returned ov ∧ (∃ w1, Y w1 ∧ va_P D vwCl w1 t.heap ∧ va_D (va_A ws sz) w1) ∧ va_F (va_A ws sz) st t
def CN (l : Launch) (D : va_G) (k : Nat → ClassId) (Z : ZT) (y : MethodName) (cc : ByteArray) (mL : Nat) (ret : Option FieldType) (fr lo mc ms : Nat) (as : List Value) (ov : Option Value) (ws : va_W) (Y : va_W → Prop) : Prop :=
  ∀ sz : Nat, Met l y [.code y cc mL ret] { frames := fr, cells := mc, slots := ms, locals := lo } (PwN D k Z as ws sz) (QnN D ov ws sz Y) mc ms (va_A ws sz)
abbrev rmn (fr lo mc ms : Nat) : Room := { frames := fr, cells := mc, slots := ms, locals := lo }
theorem CN.start {l : Launch} {D : va_G} {k : Nat → ClassId} {Z : ZT} {y : MethodName} {cc : ByteArray} {mL : Nat} {ret : Option FieldType} {fr lo mc ms : Nat} {as : List Value} {ov : Option Value} {ws : va_W} {Y : va_W → Prop} (hZ : ZOK Z) (hy : plainName y.cls = true) (hn : (lg_sl as).length ≤ mL)
    (body : ∀ (p : Program) (e : Env) (s : State) (m : MethodId) (below : List Frame) (meth : Method) (c : Code) (ls : Array Slot), Cx p s m meth c D k Z (va_A ws s.heap.size) cc mL ret y.cls → meth.name = y.name → lv_has ls mL (lv_args 0 as) → Wo D (va_A ws s.heap.size) s.heap ws s.heap [] →
      W p l e (rmn fr lo mc ms) s m as.toArray below meth c s.heap [] 0 0 (MQ below (QnN D ov ws s.heap.size Y) as.toArray s mc ms (va_A ws s.heap.size)) (F0 m 0 ls [])) : CN l D k Z y cc mL ret fr lo mc ms as ov ws Y := by
  intro sz
  refine Met.ofW (cc := cc) (maxL := mL) (ret := ret) hy rfl ?_
  intro p e s m args below meth c s₁ B hml hv
  obtain ⟨rfl, rfl, hE, hK, hP, hD, hz⟩ := hv
  rw [lg_entry_eq]
  exact body p e s m below meth c _ ⟨B.exec, B.bytes, B.returns, B.notSynchronized, hml, findClass_of_methodNamed B.named, hE, hK, hz, hZ⟩ (name_of_methodNamed B.named B.method).1 (lv_entry as hn) ⟨hP, hD.self, va_S.rf⟩
theorem ra_eq {s : State} {c1 c2 : ClassId} {ty : FieldType} (h1 : va_RA s c1 ty) (h2 : va_RA s c2 ty) : c1 = c2 := by
  cases ty with
  | object C =>
    obtain ⟨-, -, -, -, -, a⟩ := h1
    obtain ⟨-, -, -, -, -, b⟩ := h2
    exact Option.some.inj (a.symm.trans b)
  | _ => exact Option.some.inj (Eq.trans (Eq.symm h1) h2)
def MI (y : MethodName) (bytes : ByteArray) (mLy n : Nat) : Prop := Cond.code y bytes mLy none ∈ TB ∧ Cond.initialized y.cls ∈ TB ∧ Cond.instanceMethod y ∈ TB ∧ y.name = "<init>" ∧ (y.cls ≠ "java/lang/invoke/MethodHandle" ∧ y.cls ≠ "java/lang/invoke/VarHandle") ∧ (parseMethodDescriptor y.desc).map (fun d => d.parameters.length) = some n
section AL
variable {p : Program} {l : Launch} {e : Env} {R : Room} {s : State} {m : MethodId} {args : Array Value} {below : List Frame} {meth : Method} {c : Code} {H : Heap} {locs : List Loc} {cells slots : Nat} {Q : State → Prop}
variable {D : va_G} {k : Nat → ClassId} {Z : ZT} {cc : ByteArray} {mL : Nat} {ret : Option FieldType} {own : String} {A : Nat → Prop} {ws ws' wc w0 : va_W} {pc a : Nat} {ls : Array Slot} {rest : List Value}
variable {y : MethodName} {bytes : ByteArray} {mLy n index fr lo mc ms b : Nat} {rety : Option FieldType} {As st0 : List Value} {Y : va_W → Prop}
theorem r_oi {idx : Nat} (X : Cx p s m meth c D k Z A cc mL ret own) (hl : Cond.methodLink own idx objectInit ∈ TB) (hi : Cond.instanceMethod objectInit ∈ TB) (hc : Cond.code objectInit ⟨#[0xb1]⟩ 1 none ∈ TB) (hsz : ls.size = mL) (hd : decode cc pc = .ok (.invokespecial idx, 3)) (hframes : 1 ≤ R.frames) (hlocals : (rest.map fun v => v.category).sum + 12 ≤ R.locals)
    (kk : W p l e R s m args below meth c H locs cells slots Q (F0 m (pc + 3) ls rest)) : W p l e R s m args below meth c H locs cells slots Q (F0 m pc ls (.ref a :: rest)) := by
  have hE := X.2.2.2.2.2.2.1
  exact W.objInit X.1 X.2.1 X.2.2.2.2.2.1 (hE.use hl) (hE.use hi) (hE.use hc) rfl (by rw [X.2.2.2.2.1]; exact hsz) rfl hd hframes (by show 2 * 0 + _ + 12 ≤ _; omega) kk
theorem r_newa {atype : ArrayType} {ty : FieldType} {kc : ClassId} (X : Cx p s m meth c D k Z A cc mL ret own) (G : Wo D A s.heap ws H locs) (hA : ∀ q, s.heap.size ≤ q → A q) (hac : Cond.arrayClass ty ∈ TB) (hty : newarray.typeOf atype = ty) (t0 : Nat) (ht : (TY k)[t0]? = some (kc, ty)) {i : Int32} (N' : Nat) (hd0 : defaultValue ty = .int 0) (hn : ¬ i < 0) (hN : i.toNatClampNeg = N') (hbytes : N' * componentBytes ty ≤ 536870912) (hcells : cells + 1 ≤ R.cells) (hslots : slots + N' ≤ R.slots) (hdg : decode cc pc = .ok (.newarray atype, 2))
    (kk : ∀ (q : Nat) (H1 : Heap), Wo D A s.heap (ws ++ [(q, .inl (kc, N', .inl (fun _ => 0)))]) H1 locs → W p l e R s m args below meth c H1 locs (cells + 1) (slots + N') Q (F0 m (pc + 2) ls (.ref q :: rest))) : W p l e R s m args below meth c H locs cells slots Q (F0 m pc ls (.int i :: rest)) := by
  have hK := X.2.2.2.2.2.2.2.1
  subst hty
  refine va_newa (a0 := (N', .inl (fun _ => 0))) X.1 X.2.1 (X.2.2.2.2.2.2.1.use hac) rfl hK G.1 G.2.1 G.2.2 hA (fun cA => by rw [hd0]; rfl) hn hN hbytes hcells hslots hdg (fun q cA H1 hK1 h1 h2 h3 => ?_)
  have e1 : cA = kc := ra_eq (hK1.2 6 (cA, newarray.typeOf atype) rfl).2 (hK.2 t0 _ ht).2
  subst e1
  exact kk q H1 ⟨h1, h2, h3⟩
theorem r_newq {C : String} {kc : ClassId} (X : Cx p s m meth c D k Z A cc mL ret own) (G : Wo D A s.heap ws H locs) (hA : ∀ q, s.heap.size ≤ q → A q) (hcl : Cond.classLink own index C ∈ TB) (hao : Cond.arrayOver (.object C) ∈ TB) (t0 : Nat) (ht : (TY k)[t0]? = some (kc, .object C)) {i : Int32} (N' : Nat) (hn : ¬ i < 0) (hN : i.toNatClampNeg = N') (hbytes : N' * 4 ≤ 536870912) (hcells : cells + 1 ≤ R.cells) (hslots : slots + N' ≤ R.slots) (hdg : decode cc pc = .ok (.anewarray index, 3))
    (kk : ∀ (q : Nat) (H1 : Heap), Wo D A s.heap (ws ++ [(q, .inl (kc, N', .inr (.inr (.inr (.inr (fun _ => none))))))]) H1 locs → W p l e R s m args below meth c H1 locs (cells + 1) (slots + N') Q (F0 m (pc + 3) ls (.ref q :: rest))) : W p l e R s m args below meth c H locs cells slots Q (F0 m pc ls (.int i :: rest)) := by
  have hK := X.2.2.2.2.2.2.2.1
  have hE := X.2.2.2.2.2.2.1
  refine va_newq X.1 X.2.1 X.2.2.2.2.2.1 (hE.use hcl) (va_AO.of (A := args) (hE.use hao)) hK G.1 G.2.1 G.2.2 hA hn hN hbytes hcells hslots hdg (fun q cA H1 hK1 h1 h2 h3 => ?_)
  have e1 : cA = kc := ra_eq (hK1.2 6 (cA, .object C) rfl).2 (hK.2 t0 _ ht).2
  subst e1
  exact kk q H1 ⟨h1, h2, h3⟩
theorem r_new {C : String} {T : u_T} {N ci : Nat} (X : Cx p s m meth c D k Z A cc mL ret own) (G : Wo D A s.heap ws H locs) (hA : ∀ q, s.heap.size ≤ q → A q) (hin : ∀ w ∈ u_ws C T N, w ∈ TB) (ty : Nat → FieldType) (hty : ∀ k, k < N → parseFieldDescriptor (T k).2.2.1 = some (ty k)) (hcl : Cond.classLink own index C ∈ TB) (hinst : Cond.instantiable C N ∈ TB) (hini : Cond.initialized C ∈ TB) (hc : vwCl[ci]? = some (C, T, N)) {fs : List Value} (hfs : ∀ j, j < N → defaultValue (ty j) = vp_V fs j) (hcells : cells + 1 ≤ R.cells) (hslots : slots + N ≤ R.slots) (hdg : decode cc pc = .ok (.new index, 3))
    (kk : ∀ (q : Nat) (H1 : Heap), Wo D A s.heap (ws ++ [(q, .inr (ci, fs))]) H1 locs → W p l e R s m args below meth c H1 locs (cells + 1) (slots + N) Q (F0 m (pc + 3) ls (.ref q :: rest))) : W p l e R s m args below meth c H locs cells slots Q (F0 m pc ls rest) := by
  have hE := X.2.2.2.2.2.2.1
  exact va_new X.1 X.2.1 (Ts := TB) (fun w hw => hE.use hw) hin ty hty X.2.2.2.2.2.1 (hE.use hcl) (hE.use hinst) (hE.use hini) X.2.2.2.2.2.2.2.1 G.1 G.2.1 G.2.2 hA hc hfs hcells hslots hdg (fun q H1 h1 h2 h3 => kk q H1 ⟨h1, h2, h3⟩)
theorem r_putF {C : String} {T : u_T} {N ci : Nat} (X : Cx p s m meth c D k Z A cc mL ret own) (hnm0 : meth.name = "<init>") (hin : ∀ w ∈ u_ws C T N, w ∈ TB) (ty0 : Nat → FieldType) (hty : ∀ k, k < N → parseFieldDescriptor (T k).2.2.1 = some (ty0 k)) (hnm : ∀ a, a < N → ∀ b, b < N → a ≠ b → (T a).2.1 ≠ (T b).2.1) (G : Wo D A s.heap ws H locs) (q0 : Nat) {fs : List Value} (he : ws[q0]? = some (a, .inr (ci, fs))) (hc : vwCl[ci]? = some (C, T, N)) (j : Nat) (hj : j < N) (hlink : Cond.fieldLink own index (T j).1 (T j).2.1 (T j).2.2.1 ∈ TB) (hfin : (T j).2.2.2 = true) (hdecl : (T j).1 = own) {v : Value} (hn : narrow (ty0 j) v = v) (hfit : fits (ty0 j) v = true) (hl : j < fs.length) (hw : ws.set q0 (a, .inr (ci, fs.set j v)) = ws') (hdg : decode cc pc = .ok (.putfield index, 3))
    (kk : ∀ (H1 : Heap) (locs1 : List Loc), Wo D A s.heap ws' H1 locs1 → W p l e R s m args below meth c H1 locs1 cells slots Q (F0 m (pc + 3) ls rest)) : W p l e R s m args below meth c H locs cells slots Q (F0 m pc ls (v :: .ref a :: rest)) := by
  subst hw
  have hE := X.2.2.2.2.2.2.1
  exact va_putF X.1 X.2.1 (Ts := TB) (fun w hw => hE.use hw) hin ty0 hty hnm X.2.2.2.2.2.1 X.2.2.2.2.2.2.2.1 G.1 G.2.1 G.2.2 q0 he hc j hj (hE.use hlink) (fun _ h => h) hfin hnm0 hdecl (hty j hj) hn hfit hl hdg (fun H1 locs1 h1 h2 h3 => kk H1 locs1 ⟨h1, h2, h3⟩)
theorem r_astq {r : vw_C} {N v : Nat} {vs : List Value} {f : Nat → Option Nat} {cA : ClassId} (X : Cx p s m meth c D k Z A cc mL ret own) (G : Wo D A s.heap ws H locs) (q0 t0 qk ci : Nat) (ha : ws[q0]? = some (a, .inl (cA, N, .inr (.inr (.inr (.inr f)))))) (ht : (TY k)[t0]? = some (cA, .object r.1)) (hv : ws[qk]? = some (v, .inr (ci, vs))) (hc : vwCl[ci]? = some r) {i : Int32} (hin : vp_in i N) (hw : ws.set q0 (a, .inl (cA, N, .inr (.inr (.inr (.inr (va_up f i.toNatClampNeg (some v))))))) = ws') (hdg : decode cc pc = .ok (.aastore, 1))
    (kk : ∀ (H1 : Heap) (locs1 : List Loc), Wo D A s.heap ws' H1 locs1 → W p l e R s m args below meth c H1 locs1 cells slots Q (F0 m (pc + 1) ls rest)) : W p l e R s m args below meth c H locs cells slots Q (F0 m pc ls (.ref v :: .int i :: .ref a :: rest)) := by
  subst hw
  exact va_astq X.1 X.2.1 X.2.2.2.2.2.2.2.1 G.1 G.2.1 G.2.2 q0 t0 qk ci ha ht hv hc hin hdg (fun H1 locs1 h1 h2 h3 => kk H1 locs1 ⟨h1, h2, h3⟩)
theorem pn_at (X : Cx p s m meth c D k Z A cc mL ret own) (G : Wo D A s.heap ws H locs) (hA : ∀ q, s.heap.size ≤ q → A q) (is : List Nat) (hC : is.map (fun i => ws[i]?) = wc.map some) (hn : va_nd is = true) {as : List Value} : ∀ U : State, U.heap = H → s.WarmedH U.vm → PwN D k Z as wc H.size as.toArray U := fun U hU hW => by
  refine ⟨rfl, by rw [hU], X.2.2.2.2.2.2.1.warm hW, va_K.moved hW.alike X.2.2.2.2.2.2.2.1, fun k q hk => ?_, (G.2.1.sub is hn hC).own, X.2.2.2.2.2.2.2.2.2.1 A _ U (va_free G.2.1 G.2.2 hA is hC) (X.2.2.2.2.2.2.2.2.2.2 A s U hW (fun q h1 h2 => by rw [hU]; exact G.2.2.2.1 q h1 h2) X.2.2.2.2.2.2.2.2.1)⟩
  rw [hU]
  obtain ⟨i, -, h2⟩ := sub_at hC hk
  exact G.1 i q h2
theorem run_I (X : Cx p s m meth c D k Z A cc mL ret own) (hC : CN l D k Z y bytes mLy none fr lo mc ms (.ref b :: As) none wc Y) (hM : MI y bytes mLy n) (hl : Cond.methodLink own index y ∈ TB) (hR : fr + 1 ≤ R.frames ∧ 8 + (mLy + 11) + lo ≤ R.locals) (G : Wo D A s.heap ws H locs) (hA : ∀ q, s.heap.size ≤ q → A q) (is : List Nat) (hs : is.map (fun i => ws[i]?) = wc.map some) (hn : va_nd is = true)
    (hAs : As.length = n) (hsz : ls.size = mL) (hst : st0 = As.reverse ++ .ref b :: rest) (hW : (rest.map fun v => v.category).sum ≤ 8) (hdg : decode cc pc = .ok (.invokespecial index, 3)) (hf : cells + mc ≤ R.cells ∧ slots + ms ≤ R.slots) :
    va_Run p l e R s m args below meth c H locs cells slots mc ms (F0 m pc ls st0) rest (QnN D none wc H.size Y (Value.ref b :: As).toArray) (va_A wc H.size) := by
  have hE := X.2.2.2.2.2.2.1
  exact va_runI (Ts := TB) ⟨X.1, X.2.1, X.2.2.2.2.1, X.2.2.2.2.2.1, fun w hw => hE.use hw⟩ (hC H.size) ⟨⟨rfl, rfl, hR.1, hR.2, code_pay hE hM.1, List.mem_singleton.mpr rfl, hE.use hM.1, hE.use hM.2.1, hM.2.2.2.2.1, len_of hM.2.2.2.2.2, hE.use hl⟩, hM.2.2.2.1, hE.use hM.2.2.1⟩ ⟨PwN.blind X.2.2.2.2.2.2.2.2.2, pn_at X G hA is hs hn⟩ rfl hAs hsz hst (lv_room hW) hdg hf
theorem run_IN {host : String} (X : Cx p s m meth c D k Z A cc mL ret own) (hC : CN l D k Z y bytes mLy none fr lo mc ms (.ref b :: As) none wc Y) (hM : MI y bytes mLy n) (hl : Cond.methodLinkNest own index y host ∈ TB) (hR : fr + 1 ≤ R.frames ∧ 8 + (mLy + 11) + lo ≤ R.locals) (G : Wo D A s.heap ws H locs) (hA : ∀ q, s.heap.size ≤ q → A q) (is : List Nat) (hs : is.map (fun i => ws[i]?) = wc.map some) (hn : va_nd is = true)
    (hAs : As.length = n) (hsz : ls.size = mL) (hst : st0 = As.reverse ++ .ref b :: rest) (hW : (rest.map fun v => v.category).sum ≤ 8) (hdg : decode cc pc = .ok (.invokespecial index, 3)) (hf : cells + mc ≤ R.cells ∧ slots + ms ≤ R.slots) :
    va_Run p l e R s m args below meth c H locs cells slots mc ms (F0 m pc ls st0) rest (QnN D none wc H.size Y (Value.ref b :: As).toArray) (va_A wc H.size) := by
  have hE := X.2.2.2.2.2.2.1
  exact va_runIN (Ts := TB) ⟨X.1, X.2.1, X.2.2.2.2.1, X.2.2.2.2.2.1, fun w hw => hE.use hw⟩ (hC H.size) ⟨⟨⟨rfl, rfl, hR.1, hR.2, code_pay hE hM.1, List.mem_singleton.mpr rfl⟩, hE.use hM.1, hE.use hM.2.1, hM.2.2.2.2.1, len_of hM.2.2.2.2.2, hE.use hl⟩, hM.2.2.2.1, hE.use hM.2.2.1⟩ ⟨PwN.blind X.2.2.2.2.2.2.2.2.2, pn_at X G hA is hs hn⟩ rfl hAs hsz hst (lv_room hW) hdg hf
theorem p_C {wr : va_W} {ov : Option Value} {st1 : List Value} (hr : va_Run p l e R s m args below meth c H locs cells slots mc ms (F0 m pc ls st0) rest (QnN D ov wc H.size Y (As.toArray)) (va_A wc H.size)) (hst : ov.toList ++ rest = st1) (G : Wo D A s.heap ws H locs) (hA : ∀ q, s.heap.size ≤ q → A q) (isC isR : List Nat) (hC : isC.map (fun i => ws[i]?) = wc.map some) (hR : isR.map (fun i => ws[i]?) = wr.map some) (hn : va_nd isR = true) (hdis : ∀ i ∈ isR, i ∉ isC)
    (kk : ∀ (w1 : va_W) (H1 : Heap) (locs1 : List Loc), Y w1 → Wo D A s.heap (wr ++ w1) H1 locs1 → W p l e R s m args below meth c H1 locs1 (cells + mc) (slots + ms) Q (F0 m (pc + 3) ls st1)) : W p l e R s m args below meth c H locs cells slots Q (F0 m pc ls st0) := by
  have hF := va_free G.2.1 G.2.2 hA isC hC
  intro T hT X
  obtain ⟨v, st₀, t, T', L, h0, X', hL, e1, e2, ⟨hv, ⟨w1, hY, hp, hd⟩, hz, hk⟩, st⟩ := hr T hT X
  cases hv
  subst hst
  rw [h0] at hz hk
  rw [← e1] at hz hp
  have hk : ∀ q : Nat, q < H.size → ¬ va_A wc H.size q → T'.heap[q]? = H[q]? := fun q h1 h2 => by rw [e1]; exact hk q h1 h2
  obtain ⟨g1, g2⟩ := va_join G.1 G.2.1 isC isR hC hR hn hdis hk hF hp hd
  obtain ⟨t2, a1, b1⟩ := kk w1 T'.heap (locs ++ L) hY ⟨g1, g2, Nat.le_trans G.2.2.1 hz, fun q h1 h2 => by rw [hk q (Nat.lt_of_lt_of_le h1 G.2.2.1) (fun z => h2 (hF q z))]; exact G.2.2.2.1 q h1 h2, fun q hq => by
      rcases List.mem_append.mp hq with h | h
      · exact G.2.2.2.2 q h
      · exact hF _ (hL q h)⟩ T' rfl X'
  exact ⟨t2, st t2 a1, b1⟩
theorem e_nv (X : Cx p s m meth c D k Z A cc mL none own) (G : Wo D (va_A w0 s.heap.size) s.heap ws H locs) (hY : Y ws) (hdg : decode cc pc = .ok (.return_, 1)) : W p l e R s m args below meth c H locs cells slots (MQ below (QnN D none w0 s.heap.size Y) args s cells slots (va_A w0 s.heap.size)) (F0 m pc ls []) :=
  W.vret X.1 X.2.1 X.2.2.1 (fun t ht _ => ⟨rfl, ⟨ws, hY, by rw [ht]; exact G.1, G.2.1⟩, G.2.2.F ht⟩) G.2.2.2.2 hdg X.2.2.2.1
theorem e_nz {v : Int32} (bb : Bool) (hv : bI bb = v) (X : Cx p s m meth c D k Z A cc mL (some .boolean) own) (G : Wo D (va_A w0 s.heap.size) s.heap ws H locs) (hY : Y ws) (hdg : decode cc pc = .ok (.ireturn, 1)) : W p l e R s m args below meth c H locs cells slots (MQ below (QnN D (some (.int (bI bb))) w0 s.heap.size Y) args s cells slots (va_A w0 s.heap.size)) (F0 m pc ls [.int v]) := by
  subst hv
  exact W.zret X.1 X.2.1 X.2.2.1 (bI_narrow bb) (fun t ht _ => ⟨rfl, ⟨ws, hY, by rw [ht]; exact G.1, G.2.1⟩, G.2.2.F ht⟩) G.2.2.2.2 hdg X.2.2.2.1
end AL
theorem oi_im : Cond.instanceMethod objectInit ∈ TB := tb_in (List.mem_append_right _ (List.mem_of_getElem? (i := 26) (by decide +kernel))) (by decide +kernel)
theorem oi_co : Cond.code objectInit ⟨#[0xb1]⟩ 1 none ∈ TB := tb_in (List.mem_append_right _ (List.mem_of_getElem? (i := 27) (by decide +kernel))) (by decide +kernel)
theorem fill_go (n : Nat) (hn : n < 2 ^ 31) (v : Int32) : ∀ (d i : Nat) (f : Nat → Int32), i + d = n → itr (FJ7_fill_53178_5 n v (Int32.ofNat n)) (nI i, f) = some (fun j => if i ≤ j ∧ j < n then v else f j) := by
  intro d
  induction d with
  | zero =>
    intro i f h
    have hi : i = n := by omega
    subst hi
    refine (itr_inr (e := f) ?_).trans ?_
    · unfold FJ7_fill_53178_5
      exact if_pos (nI_le (Nat.le_refl i) hn)
    · congr 1
      funext j
      rw [if_neg (by omega)]
  | succ d ih =>
    intro i f h
    have h1 : FJ7_fill_53178_5 n v (Int32.ofNat n) (nI i, f) = some (.inl (nI (i + 1), upd f i v)) := by
      unfold FJ7_fill_53178_5
      refine (if_neg (show ¬ nI n ≤ nI i from nI_ge (by omega) hn)).trans ?_
      show ix (nI i) n (nm _ _) = _
      rw [ix_in (vp_in_nI (by omega) hn)]
      simp only [nm, nI_clamp (show i < 2 ^ 31 by omega), nI_1]
    rw [itr_inl h1, ih (i + 1) _ (by omega)]
    congr 1
    funext j
    by_cases hj : j = i
    · subst hj
      rw [if_neg (by omega), if_pos (by omega)]
      simp [upd]
    · simp only [upd, if_neg hj]
      by_cases h2 : i + 1 ≤ j ∧ j < n
      · rw [if_pos h2, if_pos (by omega)]
      · rw [if_neg h2, if_neg (by omega)]
theorem fill_eq {n : Nat} (hn : n < 2 ^ 31) (f : Nat → Int32) (v : Int32) : FJ7_fill_53178 n f v = some (fun j => if j < n then v else f j) := by
  unfold FJ7_fill_53178
  simp only [nm]
  rw [← nI_0, fill_go n hn v n 0 f (by omega)]
  simp
