/-! MY OWN ROWS: an environment, contracts with one word list, cells by single facts -/
abbrev EV : Type := va_G × (Nat → ClassId)
def tysE (E : EV) : List (ClassId × FieldType) := [(E.2 0, .int), (E.2 1, .long), (E.2 2, .boolean), (E.2 3, .object "java/lang/Object"), (E.2 4, .array .int)]
/-- words that stay by rows of their own: casts to Object, private statics of the host, getClass -/
def xwC (C : String) : Cond := .castable C "java/lang/Object"
def xwM (q : String × Nat × MethodName) : Cond := .methodLinkNest q.1 q.2.1 q.2.2 "WeddingRegister"
def xCs : List String := ["WeddingRegister$Law", "WeddingRegister$Person", "WeddingRegister$Paper", "WeddingRegister$Notice", "WeddingRegister$Objection", "WeddingRegister$Entry", "WeddingRegister$Correction", "[Ljava/lang/Object;"]
def xMs : List (String × Nat × MethodName) := [("WeddingRegister$DayPlan", 24, yX10_hourOf), ("WeddingRegister$DayPlan", 28, yX10_registrarOf), ("WeddingRegister$DayPlan", 35, yX10_hallOf), ("WeddingRegister$Entry", 42, yX10_hallOf), ("WeddingRegister$Entry", 49, yX10_registrarOf)]
def evK (E : EV) (U : State) : Prop := va_K E.1 vwCl (tysE E) U ∧ (∀ C ∈ xCs, va_Nw (xwC C) U) ∧ (∀ q ∈ xMs, va_Nw (xwM q) U) ∧ va_Dc U ∧ va_AO "java/lang/Object" U ∧ va_Mi "[Ljava/lang/Object;" (E.2 10) U
/-- the JDK's own empty array, which nobody writes -/
def evZ (E : EV) (A : Nat → Prop) (U : State) (H : Heap) : Prop := va_Z "java/util/ArrayList" "DEFAULTCAPACITY_EMPTY_ELEMENTDATA" "[Ljava/lang/Object;" (.ref (E.2 11)) A U H ∧ ∃ cell : Cell, H[E.2 11]? = some cell ∧ U.isArrayOf cell (.object "java/lang/Object") ∧ cell.slots.size = 0 ∧ ¬ A (E.2 11)
theorem evZ.next {E : EV} {A A1 : Nat → Prop} {s U : State} {H : Heap} {locs : List Loc} (h : evZ E A s s.heap) (hW : s.vm.Alike U.vm) (hS : va_S A s.heap H locs) (hAA : ∀ q, A1 q → A q) : evZ E A1 U H := by
  obtain ⟨h1, cell, h2, h3, h4, h5⟩ := h
  refine ⟨((h1.moved hW).kept hS.2.1).narrow hAA, cell, ?_, State.isArrayOf_alike hW h3, h4, fun z => h5 (hAA _ z)⟩
  rw [hS.2.1 _ (Array.getElem?_eq_some_iff.mp h2).1 h5]
  exact h2
theorem evZ.same {E : EV} {A : Nat → Prop} {s : State} {H : Heap} (h : evZ E A s H) (g : JFrame) (mk : MethodId) (a : Array Value) : evZ E A (s.calling g mk a) H := by
  obtain ⟨h1, cell, h2, h3, h4, h5⟩ := h
  exact ⟨h1.moved (U := s.calling g mk a) (Vm.Alike.refl s.vm), cell, h2, State.isArrayOf_alike (Vm.Alike.refl s.vm) h3, h4, h5⟩
theorem evK.warm {E : EV} {s U : State} (h : evK E s) (hW : s.WarmedH U.vm) : evK E U :=
  ⟨va_K.moved hW.alike h.1, fun C hC => va_Nw.warmC hW (h.2.1 C hC), fun q hq => va_Nw.warmM hW (h.2.2.1 q hq), va_Dc.moved hW.alike h.2.2.2.1, va_AO.moved hW.alike h.2.2.2.2.1, va_Mi.moved hW.alike h.2.2.2.2.2⟩
theorem evK.call {E : EV} {U : State} (h : evK E U) (g : JFrame) (mk : MethodId) (a : Array Value) : evK E (U.calling g mk a) :=
  ⟨va_K.moved (u := U) (U := U.calling g mk a) (Vm.Alike.refl U.vm) h.1, fun C hC => va_Nw.same (u := U) rfl rfl (h.2.1 C hC), fun q hq => va_Nw.same (u := U) rfl rfl (h.2.2.1 q hq), va_Dc.moved (u := U) (Vm.Alike.refl U.vm) h.2.2.2.1, va_AO.moved (u := U) (Vm.Alike.refl U.vm) h.2.2.2.2.1, va_Mi.moved (u := U) (Vm.Alike.refl U.vm) h.2.2.2.2.2⟩
/-- a contract: any heap with P; the answer and the heap behind with R; only cells of A are written -/
def Ct (l : Launch) (E : EV) (y : MethodName) (cc : ByteArray) (nL : Nat) (ret : Option FieldType) (fr lo mc ms : Nat) (A : Nat → Prop) (av : List Value) (P : Heap → Prop) (R : Option Value → Heap → Prop) : Prop :=
  Met l y (Cond.code y cc nL ret :: uw) { frames := fr, cells := mc, slots := ms, locals := lo }
    (fun v U => v = av.toArray ∧ P U.heap ∧ evK E U ∧ (∀ q, U.heap.size ≤ q → A q) ∧ evZ E A U U.heap)
    (fun _ st o t => (∃ v, o = .returned v ∧ R v t.heap) ∧ va_F A st t) mc ms A
/-- a reader's contract: the heap stays as it is, the answer is rv -/
def Cr (l : Launch) (E : EV) (y : MethodName) (cc : ByteArray) (nL : Nat) (ret : Option FieldType) (fr lo : Nat) (av : List Value) (P : Heap → Prop) (rv : Option Value) : Prop :=
  Met l y (Cond.code y cc nL ret :: uw) { frames := fr, cells := 0, slots := 0, locals := lo }
    (fun v U => v = av.toArray ∧ P U.heap ∧ evK E U)
    (fun _ st o t => o = .returned rv ∧ t.heap = st.heap) 0 0 (fun _ => False)
/-- where a method's walk ends -/
def QT (below : List Frame) (s : State) (args : Array Value) (mc ms : Nat) (A : Nat → Prop) (R : Option Value → Heap → Prop) : State → Prop :=
  MQ below (fun _ st o t => (∃ v, o = .returned v ∧ R v t.heap) ∧ va_F A st t) args s mc ms A
def QR (below : List Frame) (s : State) (args : Array Value) (rv : Option Value) : State → Prop :=
  MQ below (fun _ st o t => o = .returned rv ∧ t.heap = st.heap) args s 0 0 (fun _ => False)
theorem Ct.of {l : Launch} {E : EV} {y : MethodName} {cc : ByteArray} {nL : Nat} {ret : Option FieldType} {fr lo mc ms : Nat} {A : Nat → Prop} {av : List Value} {P : Heap → Prop} {R : Option Value → Heap → Prop}
    (hy : plainName y.cls = true) (hlen : (lg_sl av).length ≤ nL)
    (body : ∀ (p : Program) (e : Env) (s : State) (m : MethodId) (below : List Frame) (meth : Method) (c : Code), p.tables.exec = Jvm.exec → c.code = cc → meth.sig.returnType = ret → c.maxLocals = nL → s.vm.findClass y.cls = some m.cls → (∀ w ∈ uw, w.before av.toArray s = true) → meth.locks = false → meth.name = y.name → evK E s → P s.heap → (∀ q, s.heap.size ≤ q → A q) → evZ E A s s.heap →
      ∀ ls : Array Slot, lv_has ls nL (lv_args 0 av) → W p l e { frames := fr, cells := mc, slots := ms, locals := lo } s m av.toArray below meth c s.heap [] 0 0 (QT below s av.toArray mc ms A R) (F0 m 0 ls [])) :
    Ct l E y cc nL ret fr lo mc ms A av P R := by
  refine Met.ofW (cc := cc) (maxL := nL) (ret := ret) hy rfl ?_
  intro p e s m args below meth c s₁ B hml hv
  obtain ⟨rfl, hP, hE, hA, hZ⟩ := hv
  have hts := atoms_spec (ws := Cond.code y cc nL ret :: uw) B.pre
  have hl := lv_entry av (n := nL) hlen
  rw [lg_entry_eq]
  exact body p e s m below meth c B.exec B.bytes B.returns hml (findClass_of_methodNamed B.named) (fun w h => hts w (List.mem_cons_of_mem _ h)) B.notSynchronized (name_of_methodNamed B.named B.method).1 hE hP hA hZ _ hl
theorem Cr.of {l : Launch} {E : EV} {y : MethodName} {cc : ByteArray} {nL : Nat} {ret : Option FieldType} {fr lo : Nat} {av : List Value} {P : Heap → Prop} {rv : Option Value}
    (hy : plainName y.cls = true) (hlen : (lg_sl av).length ≤ nL)
    (body : ∀ (p : Program) (e : Env) (s : State) (m : MethodId) (below : List Frame) (meth : Method) (c : Code), p.tables.exec = Jvm.exec → c.code = cc → meth.sig.returnType = ret → c.maxLocals = nL → s.vm.findClass y.cls = some m.cls → (∀ w ∈ uw, w.before av.toArray s = true) → meth.locks = false → evK E s → P s.heap →
      ∀ ls : Array Slot, lv_has ls nL (lv_args 0 av) → W p l e { frames := fr, cells := 0, slots := 0, locals := lo } s m av.toArray below meth c s.heap [] 0 0 (QR below s av.toArray rv) (F0 m 0 ls [])) :
    Cr l E y cc nL ret fr lo av P rv := by
  refine Met.ofW (cc := cc) (maxL := nL) (ret := ret) hy rfl ?_
  intro p e s m args below meth c s₁ B hml hv
  obtain ⟨rfl, hP, hE⟩ := hv
  have hts := atoms_spec (ws := Cond.code y cc nL ret :: uw) B.pre
  have hl := lv_entry av (n := nL) hlen
  rw [lg_entry_eq]
  exact body p e s m below meth c B.exec B.bytes B.returns hml (findClass_of_methodNamed B.named) (fun w h => hts w (List.mem_cons_of_mem _ h)) B.notSynchronized hE hP _ hl
/-- what the tables say of a callee: its code, that it can be called -/
def calB (y : MethodName) (cc : ByteArray) (nL : Nat) (ret : Option FieldType) (n : Nat) : Prop :=
  Cond.code y cc nL ret ∈ uw ∧ Cond.initialized y.cls ∈ uw ∧ y.cls ≠ "java/lang/invoke/MethodHandle" ∧ y.cls ≠ "java/lang/invoke/VarHandle" ∧ (parseMethodDescriptor y.desc).map (fun d => d.parameters.length) = some n
def calV (y : MethodName) (cc : ByteArray) (nL : Nat) (ret : Option FieldType) (n : Nat) : Prop :=
  calB y cc nL ret n ∧ Cond.instanceMethod y ∈ uw ∧ Cond.selects y.cls y y ∈ uw
def calS (y : MethodName) (cc : ByteArray) (nL : Nat) (ret : Option FieldType) (n : Nat) : Prop := calB y cc nL ret n ∧ Cond.static y ∈ uw
def calI (y : MethodName) (cc : ByteArray) (nL : Nat) (n : Nat) : Prop := calB y cc nL none n ∧ y.name = "<init>" ∧ Cond.instanceMethod y ∈ uw
theorem good_uw {y : MethodName} {cc : ByteArray} {nL : Nat} {ret : Option FieldType} (h : Cond.code y cc nL ret ∈ uw) : GoodIn uw (Cond.code y cc nL ret :: uw) := by
  intro w hw
  rcases List.mem_cons.mp hw with rfl | hw
  · exact ⟨h, good_of_word (uw_good h)⟩
  · exact ⟨hw, good_of_word (uw_good hw)⟩
theorem calB.use {y : MethodName} {cc : ByteArray} {nL : Nat} {ret : Option FieldType} {n : Nat} (h : calB y cc nL ret n) {R : Room} {s : State} {args : Array Value} {own : String} {index : Nat} (hu : ∀ w ∈ uw, w.before args s = true) (hl : Cond.methodLink own index y ∈ uw) {fr lo mc ms : Nat} (hR : fr + 1 ≤ R.frames ∧ 8 + (nL + 11) + lo ≤ R.locals) :
    CallB R s args own index y cc nL ret (Cond.code y cc nL ret :: uw) { frames := fr, cells := mc, slots := ms, locals := lo } mc ms n :=
  callB_of n hu (good_uw h.1) rfl rfl rfl (hu _ h.2.1) (hu _ hl) h.2.2 hR
/-- an object of a class of ours, as a receiver -/
theorem recvAt {E : EV} {s : State} {H : Heap} {a ci : Nat} {q : vw_C} {fs : List Value} (hE : evK E s) (hc : vwCl[ci]? = some q) (ha : va_at E.1 vwCl (a, .inr (ci, fs)) H) : ∃ cell : Cell, H[a]? = some cell ∧ cell.vm.isStatics = false ∧ s.vm.findClass q.1 = some cell.cls :=
  va_recv (ws := [(a, .inr (ci, fs))]) hE.1 (fun k x hx => by
    have hz : k < 1 := (List.getElem?_eq_some_iff.mp hx).1
    rw [show k = 0 by omega] at hx
    cases hx
    exact ha) hc (q0 := 0) rfl
section MYC
variable {p : Program} {l : Launch} {e : Env} {R : Room} {s : State} {m : MethodId} {args : Array Value} {below : List Frame} {meth : Method} {c : Code} {H : Heap} {locs : List Loc} {cells slots : Nat} {Q : State → Prop} {E : EV}
variable {pc : Nat} {ls : Array Slot} {rest st0 : List Value} {y : MethodName} {cc c2 : ByteArray} {nL n2 n fr lo mc ms index : Nat} {ret : Option FieldType} {A A1 : Nat → Prop} {As : List Value} {P : Heap → Prop} {rv : Option Value} {Rv : Option Value → Heap → Prop} {own C : String} {b : Nat} {H0 : Heap}
/-- behind a reader's run -/
theorem cr_on (hr : va_Run p l e R s m args below meth c H locs cells slots 0 0 (F0 m pc ls st0) rest (fun st o t => o = .returned rv ∧ t.heap = st.heap) (fun _ => False))
    (kk : W p l e R s m args below meth c H locs cells slots Q (F0 m (pc + 3) ls (rv.toList ++ rest))) : W p l e R s m args below meth c H locs cells slots Q (F0 m pc ls st0) := by
  intro T hT X
  obtain ⟨v, st₀, t, T', L, h0, X', hL, e1, e2, ⟨hv, hh⟩, st⟩ := hr T hT X
  cases hv
  obtain ⟨t2, a1, b1⟩ := kk T' (by rw [e1, hh, h0]) (Stand.forget X' (fun q h => (hL q h).elim))
  exact ⟨t2, st t2 a1, b1⟩
/-- behind a writer's run -/
theorem ct_on (hr : va_Run p l e R s m args below meth c H locs cells slots mc ms (F0 m pc ls st0) rest (fun st o t => (∃ v, o = .returned v ∧ Rv v t.heap) ∧ va_F A1 st t) A1) (hS : va_S A H0 H locs) (hAA : ∀ q, A1 q → A q)
    (kk : ∀ (v : Option Value) (H1 : Heap) (locs1 : List Loc), Rv v H1 → va_S A H0 H1 locs1 → H.size ≤ H1.size → (∀ q : Nat, q < H.size → ¬ A1 q → H1[q]? = H[q]?) → W p l e R s m args below meth c H1 locs1 (cells + mc) (slots + ms) Q (F0 m (pc + 3) ls (v.toList ++ rest))) : W p l e R s m args below meth c H locs cells slots Q (F0 m pc ls st0) := by
  intro T hT X
  obtain ⟨v, st₀, t, T', L, h0, X', hL, e1, e2, ⟨⟨v', hv, hR⟩, hz, hk⟩, st⟩ := hr T hT X
  cases hv
  rw [h0] at hz hk
  obtain ⟨t2, a1, b1⟩ := kk v T'.heap (locs ++ L) (by rw [e1]; exact hR)
    ⟨Nat.le_trans hS.1 (by rw [e1]; exact hz), fun q h1 h2 => by rw [e1, hk q (Nat.lt_of_lt_of_le h1 hS.1) (fun z => h2 (hAA q z))]; exact hS.2.1 q h1 h2, fun q hq => by
      rcases List.mem_append.mp hq with h | h
      · exact hS.2.2 q h
      · exact hAA _ (hL q h)⟩ (by rw [e1]; exact hz) (fun q h1 h2 => by rw [e1]; exact hk q h1 h2) T' rfl X'
  exact ⟨t2, st t2 a1, b1⟩
/-- a call of a reader: virtual, static, and (nest) static of the host -/
theorem cr_V {ci : Nat} {q : vw_C} {fs : List Value} (hx : p.tables.exec = Jvm.exec) (hb : c.code = cc) (hml : c.maxLocals = nL) (hown : s.vm.findClass own = some m.cls) (hu : ∀ w ∈ uw, w.before args s = true) (hE : evK E s) (hM : Cr l E y c2 n2 ret fr lo (.ref b :: As) P rv) (hk : calV y c2 n2 ret n) (hl : Cond.methodLink own index y ∈ uw) (ha : va_at E.1 vwCl (b, .inr (ci, fs)) H) (hc : vwCl[ci]? = some q) (hq : y.cls = q.1) (hP : P H)
    (hR : fr + 1 ≤ R.frames ∧ 8 + (n2 + 11) + lo ≤ R.locals) (hn : As.length = n) (hsz : ls.size = nL) (hst : st0 = As.reverse ++ .ref b :: rest) (hW : (rest.map fun v => v.category).sum ≤ 8) (hf : cells ≤ R.cells ∧ slots ≤ R.slots) (hdg : decode cc pc = .ok (.invokevirtual index, 3))
    (kk : W p l e R s m args below meth c H locs cells slots Q (F0 m (pc + 3) ls (rv.toList ++ rest))) : W p l e R s m args below meth c H locs cells slots Q (F0 m pc ls st0) := by
  have hs := recvAt hE hc ha
  rw [← hq] at hs
  exact cr_on (va_runV (C := y.cls) ⟨hx, hb, hml, hown, hu⟩ hM ⟨calB.use hk.1 hu hl hR, hu _ hk.2.1, hu _ hk.2.2⟩ ⟨fun a U g mk q => ⟨q.1, q.2.1, q.2.2.call g mk a⟩, hs, fun U hU hW => ⟨rfl, by rw [hU]; exact hP, hE.warm hW⟩⟩ rfl hn hsz hst (lv_room hW) hdg hf) kk
theorem cr_S (hx : p.tables.exec = Jvm.exec) (hb : c.code = cc) (hml : c.maxLocals = nL) (hown : s.vm.findClass own = some m.cls) (hu : ∀ w ∈ uw, w.before args s = true) (hE : evK E s) (hM : Cr l E y c2 n2 ret fr lo As P rv) (hk : calS y c2 n2 ret n) (hl : Cond.methodLink own index y ∈ uw) (hP : P H)
    (hR : fr + 1 ≤ R.frames ∧ 8 + (n2 + 11) + lo ≤ R.locals) (hn : As.length = n) (hsz : ls.size = nL) (hst : st0 = As.reverse ++ rest) (hW : (rest.map fun v => v.category).sum ≤ 8) (hf : cells ≤ R.cells ∧ slots ≤ R.slots) (hdg : decode cc pc = .ok (.invokestatic index, 3))
    (kk : W p l e R s m args below meth c H locs cells slots Q (F0 m (pc + 3) ls (rv.toList ++ rest))) : W p l e R s m args below meth c H locs cells slots Q (F0 m pc ls st0) :=
  cr_on (va_runS ⟨hx, hb, hml, hown, hu⟩ hM ⟨calB.use hk.1 hu hl hR, hu _ hk.2⟩ ⟨fun a U g mk q => ⟨q.1, q.2.1, q.2.2.call g mk a⟩, fun U hU hW => ⟨rfl, by rw [hU]; exact hP, hE.warm hW⟩⟩ rfl hn hsz hst (lv_room hW) hdg hf) kk
theorem cr_N (hx : p.tables.exec = Jvm.exec) (hb : c.code = cc) (hml : c.maxLocals = nL) (hown : s.vm.findClass own = some m.cls) (hu : ∀ w ∈ uw, w.before args s = true) (hE : evK E s) (hM : Cr l E y c2 n2 ret fr lo As P rv) (hk : calS y c2 n2 ret n) (hl : (own, index, y) ∈ xMs) (hP : P H)
    (hR : fr + 1 ≤ R.frames ∧ 8 + (n2 + 11) + lo ≤ R.locals) (hn : As.length = n) (hsz : ls.size = nL) (hst : st0 = As.reverse ++ rest) (hW : (rest.map fun v => v.category).sum ≤ 8) (hf : cells ≤ R.cells ∧ slots ≤ R.slots) (hdg : decode cc pc = .ok (.invokestatic index, 3))
    (kk : W p l e R s m args below meth c H locs cells slots Q (F0 m (pc + 3) ls (rv.toList ++ rest))) : W p l e R s m args below meth c H locs cells slots Q (F0 m pc ls st0) :=
  cr_on (va_runSN (host := "WeddingRegister") ⟨hx, hb, hml, hown, hu⟩ hM ⟨va_cnB n hu (good_uw hk.1.1) rfl rfl rfl (hE.2.2.1 _ hl) (hu _ hk.1.2.1) hk.1.2.2 hR, hu _ hk.2, trivial⟩ ⟨fun a U g mk q => ⟨q.1, q.2.1, q.2.2.call g mk a⟩, fun U hU hW => ⟨rfl, by rw [hU]; exact hP, hE.warm hW⟩⟩ rfl hn hsz hst (lv_room hW) hdg hf) kk
/-- a call of a writer: virtual, static, a constructor -/
theorem ct_V {ci : Nat} {q : vw_C} {fs : List Value} (hx : p.tables.exec = Jvm.exec) (hb : c.code = cc) (hml : c.maxLocals = nL) (hown : s.vm.findClass own = some m.cls) (hu : ∀ w ∈ uw, w.before args s = true) (hE : evK E s) (hZ : evZ E A s s.heap) (hS : va_S A s.heap H locs) (hAA : ∀ q, A1 q → A q) (hA1 : ∀ q, H.size ≤ q → A1 q) (hM : Ct l E y c2 n2 ret fr lo mc ms A1 (.ref b :: As) P Rv) (hk : calV y c2 n2 ret n) (hl : Cond.methodLink own index y ∈ uw) (ha : va_at E.1 vwCl (b, .inr (ci, fs)) H) (hc : vwCl[ci]? = some q) (hq : y.cls = q.1) (hP : P H)
    (hR : fr + 1 ≤ R.frames ∧ 8 + (n2 + 11) + lo ≤ R.locals) (hn : As.length = n) (hsz : ls.size = nL) (hst : st0 = As.reverse ++ .ref b :: rest) (hW : (rest.map fun v => v.category).sum ≤ 8) (hf : cells + mc ≤ R.cells ∧ slots + ms ≤ R.slots) (hdg : decode cc pc = .ok (.invokevirtual index, 3))
    (kk : ∀ (v : Option Value) (H1 : Heap) (locs1 : List Loc), Rv v H1 → va_S A s.heap H1 locs1 → H.size ≤ H1.size → (∀ q : Nat, q < H.size → ¬ A1 q → H1[q]? = H[q]?) → W p l e R s m args below meth c H1 locs1 (cells + mc) (slots + ms) Q (F0 m (pc + 3) ls (v.toList ++ rest))) : W p l e R s m args below meth c H locs cells slots Q (F0 m pc ls st0) := by
  have hs := recvAt hE hc ha
  rw [← hq] at hs
  exact ct_on (va_runV (C := y.cls) ⟨hx, hb, hml, hown, hu⟩ hM ⟨calB.use hk.1 hu hl hR, hu _ hk.2.1, hu _ hk.2.2⟩ ⟨fun a U g mk q => ⟨q.1, q.2.1, q.2.2.1.call g mk a, q.2.2.2.1, q.2.2.2.2.same g mk a⟩, hs, fun U hU hW => ⟨rfl, by rw [hU]; exact hP, hE.warm hW, by rw [hU]; exact hA1, by rw [hU]; exact hZ.next hW.alike hS hAA⟩⟩ rfl hn hsz hst (lv_room hW) hdg hf) hS hAA kk
theorem ct_S (hx : p.tables.exec = Jvm.exec) (hb : c.code = cc) (hml : c.maxLocals = nL) (hown : s.vm.findClass own = some m.cls) (hu : ∀ w ∈ uw, w.before args s = true) (hE : evK E s) (hZ : evZ E A s s.heap) (hS : va_S A s.heap H locs) (hAA : ∀ q, A1 q → A q) (hA1 : ∀ q, H.size ≤ q → A1 q) (hM : Ct l E y c2 n2 ret fr lo mc ms A1 As P Rv) (hk : calS y c2 n2 ret n) (hl : Cond.methodLink own index y ∈ uw) (hP : P H)
    (hR : fr + 1 ≤ R.frames ∧ 8 + (n2 + 11) + lo ≤ R.locals) (hn : As.length = n) (hsz : ls.size = nL) (hst : st0 = As.reverse ++ rest) (hW : (rest.map fun v => v.category).sum ≤ 8) (hf : cells + mc ≤ R.cells ∧ slots + ms ≤ R.slots) (hdg : decode cc pc = .ok (.invokestatic index, 3))
    (kk : ∀ (v : Option Value) (H1 : Heap) (locs1 : List Loc), Rv v H1 → va_S A s.heap H1 locs1 → H.size ≤ H1.size → (∀ q : Nat, q < H.size → ¬ A1 q → H1[q]? = H[q]?) → W p l e R s m args below meth c H1 locs1 (cells + mc) (slots + ms) Q (F0 m (pc + 3) ls (v.toList ++ rest))) : W p l e R s m args below meth c H locs cells slots Q (F0 m pc ls st0) :=
  ct_on (va_runS ⟨hx, hb, hml, hown, hu⟩ hM ⟨calB.use hk.1 hu hl hR, hu _ hk.2⟩ ⟨fun a U g mk q => ⟨q.1, q.2.1, q.2.2.1.call g mk a, q.2.2.2.1, q.2.2.2.2.same g mk a⟩, fun U hU hW => ⟨rfl, by rw [hU]; exact hP, hE.warm hW, by rw [hU]; exact hA1, by rw [hU]; exact hZ.next hW.alike hS hAA⟩⟩ rfl hn hsz hst (lv_room hW) hdg hf) hS hAA kk
theorem ct_I (hx : p.tables.exec = Jvm.exec) (hb : c.code = cc) (hml : c.maxLocals = nL) (hown : s.vm.findClass own = some m.cls) (hu : ∀ w ∈ uw, w.before args s = true) (hE : evK E s) (hZ : evZ E A s s.heap) (hS : va_S A s.heap H locs) (hAA : ∀ q, A1 q → A q) (hA1 : ∀ q, H.size ≤ q → A1 q) (hM : Ct l E y c2 n2 none fr lo mc ms A1 (.ref b :: As) P Rv) (hk : calI y c2 n2 n) (hl : Cond.methodLink own index y ∈ uw) (hP : P H)
    (hR : fr + 1 ≤ R.frames ∧ 8 + (n2 + 11) + lo ≤ R.locals) (hn : As.length = n) (hsz : ls.size = nL) (hst : st0 = As.reverse ++ .ref b :: rest) (hW : (rest.map fun v => v.category).sum ≤ 8) (hf : cells + mc ≤ R.cells ∧ slots + ms ≤ R.slots) (hdg : decode cc pc = .ok (.invokespecial index, 3))
    (kk : ∀ (v : Option Value) (H1 : Heap) (locs1 : List Loc), Rv v H1 → va_S A s.heap H1 locs1 → H.size ≤ H1.size → (∀ q : Nat, q < H.size → ¬ A1 q → H1[q]? = H[q]?) → W p l e R s m args below meth c H1 locs1 (cells + mc) (slots + ms) Q (F0 m (pc + 3) ls (v.toList ++ rest))) : W p l e R s m args below meth c H locs cells slots Q (F0 m pc ls st0) :=
  ct_on (va_runI ⟨hx, hb, hml, hown, hu⟩ hM ⟨calB.use hk.1 hu hl hR, hk.2.1, hu _ hk.2.2⟩ ⟨fun a U g mk q => ⟨q.1, q.2.1, q.2.2.1.call g mk a, q.2.2.2.1, q.2.2.2.2.same g mk a⟩, fun U hU hW => ⟨rfl, by rw [hU]; exact hP, hE.warm hW, by rw [hU]; exact hA1, by rw [hU]; exact hZ.next hW.alike hS hAA⟩⟩ rfl hn hsz hst (lv_room hW) hdg hf) hS hAA kk
/-- the ends of a reader -/
theorem cr_ri {v : Int32} (hx : p.tables.exec = Jvm.exec) (hb : c.code = cc) (hr : meth.sig.returnType = some .int) (hlocks : meth.locks = false) (hv : rv = some (.int v)) (hdg : decode cc pc = .ok (.ireturn, 1)) : W p l e R s m args below meth c s.heap [] 0 0 (QR below s args rv) (F0 m pc ls [.int v]) :=
  W.iret hx hb hr (fun t ht _ => ⟨by rw [hv], ht⟩) (fun q h => by cases h) hdg hlocks
theorem cr_rz {v : Int32} (hx : p.tables.exec = Jvm.exec) (hb : c.code = cc) (hr : meth.sig.returnType = some .boolean) (hlocks : meth.locks = false) (hv : rv = some (.int v)) (hn : narrow .boolean (.int v) = .int v) (hdg : decode cc pc = .ok (.ireturn, 1)) : W p l e R s m args below meth c s.heap [] 0 0 (QR below s args rv) (F0 m pc ls [.int v]) :=
  W.zret hx hb hr hn (fun t ht _ => ⟨by rw [hv], ht⟩) (fun q h => by cases h) hdg hlocks
theorem cr_ra {v : Value} {rt : FieldType} (hx : p.tables.exec = Jvm.exec) (hb : c.code = cc) (hr : meth.sig.returnType = some rt) (hrt : (∃ n, rt = .object n) ∨ ∃ t, rt = .array t) (hvv : v = .null ∨ ∃ a, v = .ref a) (hlocks : meth.locks = false) (hv : rv = some v) (hdg : decode cc pc = .ok (.areturn, 1)) : W p l e R s m args below meth c s.heap [] 0 0 (QR below s args rv) (F0 m pc ls [v]) :=
  W.aret hx hb hr hrt hvv (fun t ht _ => ⟨by rw [hv], ht⟩) (fun q h => by cases h) hdg hlocks
/-- the ends of a writer -/
theorem ct_ri {v : Int32} (hx : p.tables.exec = Jvm.exec) (hb : c.code = cc) (hr : meth.sig.returnType = some .int) (hlocks : meth.locks = false) (hS : va_S A s.heap H locs) (hR : Rv (some (.int v)) H) (h1 : cells ≤ mc) (h2 : slots ≤ ms) (hdg : decode cc pc = .ok (.ireturn, 1)) : W p l e R s m args below meth c H locs cells slots (QT below s args mc ms A Rv) (F0 m pc ls [.int v]) :=
  W.widen h1 h2 (W.iret hx hb hr (fun t ht _ => ⟨⟨_, rfl, by rw [ht]; exact hR⟩, hS.F ht⟩) hS.2.2 hdg hlocks)
theorem ct_rz {v : Int32} (hx : p.tables.exec = Jvm.exec) (hb : c.code = cc) (hr : meth.sig.returnType = some .boolean) (hlocks : meth.locks = false) (hS : va_S A s.heap H locs) (hR : Rv (some (.int v)) H) (hn : narrow .boolean (.int v) = .int v) (h1 : cells ≤ mc) (h2 : slots ≤ ms) (hdg : decode cc pc = .ok (.ireturn, 1)) : W p l e R s m args below meth c H locs cells slots (QT below s args mc ms A Rv) (F0 m pc ls [.int v]) :=
  W.widen h1 h2 (W.zret hx hb hr hn (fun t ht _ => ⟨⟨_, rfl, by rw [ht]; exact hR⟩, hS.F ht⟩) hS.2.2 hdg hlocks)
theorem ct_rv (hx : p.tables.exec = Jvm.exec) (hb : c.code = cc) (hr : meth.sig.returnType = none) (hlocks : meth.locks = false) (hS : va_S A s.heap H locs) (hR : Rv none H) (h1 : cells ≤ mc) (h2 : slots ≤ ms) (hdg : decode cc pc = .ok (.return_, 1)) : W p l e R s m args below meth c H locs cells slots (QT below s args mc ms A Rv) (F0 m pc ls []) :=
  W.widen h1 h2 (W.vret hx hb hr (fun t ht _ => ⟨⟨_, rfl, by rw [ht]; exact hR⟩, hS.F ht⟩) hS.2.2 hdg hlocks)
theorem ct_ra {v : Value} {rt : FieldType} (hx : p.tables.exec = Jvm.exec) (hb : c.code = cc) (hr : meth.sig.returnType = some rt) (hrt : (∃ n, rt = .object n) ∨ ∃ t, rt = .array t) (hvv : v = .null ∨ ∃ a, v = .ref a) (hlocks : meth.locks = false) (hS : va_S A s.heap H locs) (hR : Rv (some v) H) (h1 : cells ≤ mc) (h2 : slots ≤ ms) (hdg : decode cc pc = .ok (.areturn, 1)) : W p l e R s m args below meth c H locs cells slots (QT below s args mc ms A Rv) (F0 m pc ls [v]) :=
  W.widen h1 h2 (W.aret hx hb hr hrt hvv (fun t ht _ => ⟨⟨_, rfl, by rw [ht]; exact hR⟩, hS.F ht⟩) hS.2.2 hdg hlocks)
end MYC
