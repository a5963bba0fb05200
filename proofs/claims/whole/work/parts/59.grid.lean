/-! NEW int[N][K], FROM THE MODEL'S OWN WORDS: an outer one with i rows in it, the rows lying right behind it; nothing of the one-by-one laws is used -/
def gO (c : ClassId) (N h i : Nat) : Cell := arrV c N (fun j => va_rf (if j < i then some (h + 1 + j) else none))
def gI (c : ClassId) (K : Nat) : Cell := arrV c K (fun _ => .int 0)
theorem gO_zero (c : ClassId) (N h : Nat) : ({ cls := c, slots := Array.replicate N .null, vm := .none } : Cell) = gO c N h 0 := by
  rw [arrV_new]
  exact congrArg (arrV c N) (funext fun j => by simp [va_rf])
theorem gO_next (c : ClassId) (N h i : Nat) : (gO c N h i).setSlot i (.ref (h + 1 + i)) = gO c N h (i + 1) := by
  unfold gO
  rw [arrV_store]
  refine congrArg (arrV c N) (funext fun j => ?_)
  unfold updV
  by_cases e : j = i
  · rw [if_pos e, if_pos (by omega), e]; rfl
  · rw [if_neg e]
    show va_rf (if j < i then some (h + 1 + j) else none) = _
    by_cases w : j < i
    · rw [if_pos w, if_pos (by omega)]
    · rw [if_neg w, if_neg (by omega)]
/-! the tables' word of rows of rows, as numbers of classes -/
def aoA (U : State) : Prop := ∃ (cI cO : ClassId) (k : Class), U.vm.findClass (FieldType.array .int).toString = some cI ∧ U.vm.classes[cO]? = some k ∧ k.kind = .array cI (.array .int) ∧ U.vm.findClass ("[" ++ (FieldType.array .int).toString) = some cO
theorem aoA.moved {u U : State} (hvm : u.vm.Alike U.vm) (h : aoA u) : aoA U := by
  obtain ⟨cI, cO, k, h1, h2, h3, h4⟩ := h
  obtain ⟨k', q1, q2⟩ := hvm.2.2 _ _ h2
  exact ⟨cI, cO, k', (hvm.findClass _ _).trans h1, q1, by rw [q2]; exact h3, (hvm.findClass _ _).trans h4⟩
theorem aoA.of {args : Array Value} {s : State} (h : (Cond.arrayOver (.array .int)).before args s = true) : aoA s := by
  have h0 : (Cond.arrayOver (.array .int)).value args s none s [] = some true := by
    simpa [Cond.before, Cond.holds] using h
  simp only [Cond.value] at h0
  obtain ⟨cI, h1, h2⟩ := Option.bind_eq_some_iff.mp h0
  obtain ⟨cO, h3, h4⟩ := Option.bind_eq_some_iff.mp h2
  obtain ⟨k, h5, h6⟩ := Option.map_eq_some_iff.mp h4
  obtain ⟨q1, q2, -⟩ := Array.findIdx?_eq_some_iff_getElem.mp h3
  have q3 : s.vm.classes[cO] = k := (Array.getElem?_eq_some_iff.mp h5).2
  rw [q3] at q2
  cases hk : k.kind with
  | array a b =>
    simp only [hk, beq_iff_eq] at q2
    simp only [hk, Bool.and_eq_true, decide_eq_true_eq] at h6
    exact ⟨cI, cO, k, h1, h5, by rw [hk, q2, h6.1], h6.2⟩
  | _ => simp [hk] at q2
/-! a loop over numbers, told by what each turn keeps; where it ends is known ahead -/
theorem g_loop {e : Env} {N : Nat} {fr : JFrame} {F : Nat → State → Prop} {nx : Nat → State → State} {f : Nat → PUnit → Sem (ForInStep PUnit)} (hF : ∀ i U, i < N → F i U → F (i + 1) (nx i U))
    (hs : ∀ (i : Nat) (U : State) (E : CtlPost) (Q : ForInStep PUnit → Pre) (d : Bool) (acts : List Action), i < N → F i U → (∀ d' a', Q (.yield PUnit.unit) d' a' ((nx i U).setTop fr)) → wp (f i PUnit.unit) Q E e d acts (U.setTop fr)) :
    ∀ (k i : Nat) (U : State), i + k = N → F i U → ∃ U' : State, F N U' ∧ ∀ (E : CtlPost) (Q : PUnit → Pre) (d : Bool) (acts : List Action), (∀ d' a', Q PUnit.unit d' a' (U'.setTop fr)) → wp (forIn (List.range' i k) PUnit.unit f) Q E e d acts (U.setTop fr)
  | 0, i, U, h, hU => by
    have hi : i = N := by omega
    subst hi
    refine ⟨U, hU, fun E Q d acts hq => ?_⟩
    rw [List.range'_zero, List.forIn_nil, wp_pure']
    exact hq d acts
  | k + 1, i, U, h, hU => by
    obtain ⟨U', h1, h2⟩ := g_loop hF hs k (i + 1) (nx i U) (by omega) (hF i U (by omega) hU)
    refine ⟨U', h1, fun E Q d acts hq => ?_⟩
    rw [List.range'_succ, List.forIn_cons, wp_bind']
    exact hs i U E _ d acts (by omega) hU fun d' a' => h2 E Q d' a' hq
section GRID
variable {p : Program} {l : Launch} {e : Env} {R : Room} {s : State} {m : MethodId} {args : Array Value} {below : List Frame} {meth : Method} {c : Code} {T : State} {H : Heap} {locs : List Loc} {cells slots : Nat} {cO cI : ClassId} {N K : Nat}
/-- i rows are in -/
def gF (p : Program) (l : Launch) (e : Env) (R : Room) (s : State) (m : MethodId) (args : Array Value) (below : List Frame) (meth : Method) (c : Code) (locs : List Loc) (cells slots : Nat) (H : Heap) (cO cI : ClassId) (N K i : Nat) (U : State) : Prop :=
  Stand p l e R s m args below meth c U locs (cells + 1 + i) (slots + N + i * K) ∧ U.heap.size = H.size + 1 + i ∧ U.heap[H.size]? = some (gO cO N H.size i) ∧ (∀ q : Nat, q < H.size → U.heap[q]? = H[q]?) ∧ ∀ j : Nat, j < i → U.heap[H.size + 1 + j]? = some (gI cI K)
/-- one row more -/
def gN (H : Heap) (cO cI : ClassId) (N K i : Nat) (U : State) : State := (U.pushCell (gI cI K)).setCell H.size (gO cO N H.size (i + 1))
theorem gF.first (X : Stand p l e R s m args below meth c T locs cells slots) (hT : T.heap = H) : gF p l e R s m args below meth c locs cells slots H cO cI N K 0 (T.pushCell (gO cO N H.size 0)) := by
  subst hT
  have Y := X.pushed (gO cO N T.heap.size 0)
  rw [show (gO cO N T.heap.size 0).slots.size = N from arrV_size ..] at Y
  refine ⟨?_, ?_, State.heap_pushCell_size _ _, fun q hq => State.heap_pushCell_of_lt _ _ hq, fun j hj => absurd hj (Nat.not_lt_zero j)⟩
  · rw [Nat.zero_mul]; exact Y
  · exact State.heap_size_pushCell _ _
theorem gF.next (hg : s.heap.size ≤ H.size) {i : Nat} {U : State} (h : gF p l e R s m args below meth c locs cells slots H cO cI N K i U) : gF p l e R s m args below meth c locs cells slots H cO cI N K (i + 1) (gN H cO cI N K i U) := by
  obtain ⟨X, z, o, old, rows⟩ := h
  have hlt : ∀ q : Nat, q ≤ H.size + i → q < U.heap.size := fun q hq => by omega
  have ho : (U.pushCell (gI cI K)).heap[H.size]? = some (gO cO N H.size i) := (State.heap_pushCell_of_lt _ _ (hlt H.size (by omega))).trans o
  have Y := (X.pushed (gI cI K)).stored ho i (.ref (H.size + 1 + i))
  rw [gO_next, show (gI cI K).slots.size = K from arrV_size ..] at Y
  have Y' := Y.dropFresh (fun x hx => by rw [List.mem_singleton] at hx; rw [hx]; exact hg)
  have e1 : cells + 1 + i + 1 = cells + 1 + (i + 1) := by omega
  have e2 : slots + N + i * K + K = slots + N + (i + 1) * K := by rw [Nat.succ_mul]; omega
  rw [e1, e2] at Y'
  refine ⟨Y', ?_, State.heap_setCell_self ho, fun q hq => ?_, fun j hj => ?_⟩
  · have w : (U.pushCell (gI cI K)).heap.size = U.heap.size + 1 := State.heap_size_pushCell _ _
    show ((U.pushCell (gI cI K)).heap.setIfInBounds _ _).size = _
    rw [Array.size_setIfInBounds, w, z]
    omega
  · show ((U.pushCell (gI cI K)).setCell _ _).heap[q]? = _
    rw [State.heap_setCell_other (Nat.ne_of_gt hq), State.heap_pushCell_of_lt _ _ (hlt q (by omega))]
    exact old q hq
  · show ((U.pushCell (gI cI K)).setCell _ _).heap[_]? = _
    rw [State.heap_setCell_other (show H.size ≠ H.size + 1 + j by omega)]
    by_cases e : j = i
    · rw [e, ← z]; exact State.heap_pushCell_size _ _
    · rw [State.heap_pushCell_of_lt _ _ (hlt (H.size + 1 + j) (by omega))]
      exact rows j (by omega)
/-- one turn of the model's loop -/
theorem gF.turn {kO kI : Class} {cc : ClassId} {k : Int32} (hkO : s.vm.classes[cO]? = some kO) (hO : kO.kind = .array cI (.array .int)) (hkI : s.vm.classes[cI]? = some kI) (hI : kI.kind = .array cc .int) (hk : ¬ k < 0) (hb : k.toNatClampNeg * 4 ≤ 536870912) {i : Nat} {U : State} (hi : i < N) (hc : cells + 1 + i + 1 ≤ R.cells) (hsl : slots + N + i * k.toNatClampNeg + k.toNatClampNeg ≤ R.slots)
    (h : gF p l e R s m args below meth c locs cells slots H cO cI N k.toNatClampNeg i U) {fr : JFrame} {E : CtlPost} {Q : ForInStep PUnit → Pre} {d : Bool} {acts : List Action} (hq : ∀ d' a', Q (.yield PUnit.unit) d' a' ((gN H cO cI N k.toNatClampNeg i U).setTop fr)) :
    wp (do let a ← multianewarray.make cI [k]; writeLoc H.size i (.ref a); Pure.pure (ForInStep.yield PUnit.unit)) Q E e d acts (U.setTop fr) := by
  obtain ⟨X, z, o, old, rows⟩ := h
  obtain ⟨kO', a1, a2⟩ := X.warmed.alike.2.2 _ _ hkO
  obtain ⟨kI', b1, b2⟩ := X.warmed.alike.2.2 _ _ hkI
  have a3 : kO'.kind = .array cI (.array .int) := by rw [a2]; exact hO
  have b3 : kI'.kind = .array cc .int := by rw [b2]; exact hI
  obtain ⟨r1, r2⟩ := X.roomAbove hc hsl
  have hlt : H.size < U.heap.size := by omega
  have lim : e.platform.arrayLengthLimit = 2147483645 := Launch.admits_arrayLengthLimit X.admits
  have hep : e.platform.maxHeapBytes = 536870912 := Launch.admits_maxHeapBytes X.admits
  rw [wp_bind', multianewarray.make]
  simp only [wp_bind', W.ite, if_neg hk, wp_pure', W.theClass]
  refine ⟨kI', b1, ?_⟩
  simp only [b3]
  refine W.newArray_of (s := U.setTop fr) b1 b3 (by omega) (by show ¬ k.toNatClampNeg * 4 > _; omega) (by show U.heap.size < _; omega) (by show U.slotsUsed + _ ≤ _; exact r2) rfl fun a' => ?_
  simp only [wp_bind', W.writeLoc, wp_pure']
  refine ⟨gO cO N H.size i, (State.heap_pushCell_of_lt (U.setTop fr) _ hlt).trans o, (fun q => by cases q), (by rw [show (gO cO N H.size i).slots.size = N from arrV_size ..]; exact hi), ?_, ?_⟩
  · show State.fitsSlot _ cO .none i _ = true
    simp [State.fitsSlot, State.slotType?, a1, a3]
    rfl
  · have ez : (U.setTop fr).heap.size = H.size + 1 + i := z
    have ei : ({ cls := cI, slots := Array.replicate k.toNatClampNeg (defaultValue .int) } : Cell) = gI cI k.toNatClampNeg := arrV_new cI _ (.int 0)
    rw [ez, gO_next, ei]
    exact hq _ _
/-- the instruction -/
theorem g_make (X : Stand p l e R s m args below meth c T locs cells slots) (hx : p.tables.exec = Jvm.exec) {own : String} {index : Nat} (hown : s.vm.findClass own = some m.cls) (hl : (Cond.classLink own index "[[I").before args s = true) (hover : aoA s) (harr : (Cond.arrayClass .int).before args s = true) {pc : Nat} {ls : Array Slot} {rest : List Value} {n k : Int32} (hdg : decode c.code pc = .ok (.multianewarray index 2, 4)) (hn : ¬ n < 0) (hk : ¬ k < 0) (hb1 : n.toNatClampNeg * 4 ≤ 536870912) (hb2 : k.toNatClampNeg * 4 ≤ 536870912) (hcells : cells + (1 + n.toNatClampNeg) ≤ R.cells) (hslots : slots + (n.toNatClampNeg + n.toNatClampNeg * k.toNatClampNeg) ≤ R.slots) :
    ∃ (cO cI : ClassId) (U : State), s.vm.findClass ("[" ++ (FieldType.array .int).toString) = some cO ∧ s.vm.findClass ("[" ++ (FieldType.int).toString) = some cI ∧ gF p l e R s m args below meth c locs cells slots T.heap cO cI n.toNatClampNeg k.toNatClampNeg n.toNatClampNeg U ∧
      ∀ t, Steps p.tables e below (U.setTop (F0 m (pc + 4) ls (.ref T.heap.size :: rest))) t → Steps p.tables e below (T.setTop (F0 m pc ls (.int k :: .int n :: rest))) t := by
  obtain ⟨cI, cO, kO, fI, hkO, hO, fO⟩ := hover
  obtain ⟨cI', kI, cc, fI', hkI, hI⟩ := Cond.arrayClass_spec harr
  have eI : cI' = cI := Option.some.inj (fI'.symm.trans fI)
  subst eI
  obtain ⟨c0, fc, hcl⟩ := Cond.classLink_spec hown hl e.platform (by rw [X.admits.platform])
  have eO : c0 = cO := Option.some.inj (fc.symm.trans fO)
  subst eO
  obtain ⟨gv, hw, -⟩ := State.classEntry (e := e) X.warmed hcl
  generalize T.vm.noted m.cls index (.cls c0) = vm1 at gv hw
  have X1 := X.noted hw
  obtain ⟨k1, a1, a2⟩ := hw.alike.2.2 _ _ hkO
  have a3 : k1.kind = .array cI' (.array .int) := by rw [a2]; exact hO
  obtain ⟨r1, r2⟩ := X.roomAbove hcells hslots
  have lim : e.platform.arrayLengthLimit = 2147483645 := Launch.admits_arrayLengthLimit X.admits
  have hep : e.platform.maxHeapBytes = 536870912 := Launch.admits_maxHeapBytes X.admits
  obtain ⟨U, hU, hwp⟩ := g_loop (e := e) (N := n.toNatClampNeg) (fr := F0 m pc ls rest) (F := gF p l e R s m args below meth c locs cells slots T.heap c0 cI' n.toNatClampNeg k.toNatClampNeg) (nx := gN T.heap c0 cI' n.toNatClampNeg k.toNatClampNeg) (f := fun i _ => do let a ← multianewarray.make cI' [k]; writeLoc T.heap.size i (.ref a); Pure.pure (ForInStep.yield PUnit.unit))
    (fun i V _ h => h.next X.heapGrown)
    (fun i V E Q d acts hi h hq => h.turn hkO hO hkI hI hk hb2 hi (by omega) (by
      have w := Nat.mul_le_mul_right k.toNatClampNeg (show i + 1 ≤ n.toNatClampNeg from hi)
      rw [Nat.succ_mul] at w
      omega) hq)
    n.toNatClampNeg 0 ((T.setVm vm1).pushCell (gO c0 n.toNatClampNeg T.heap.size 0)) (by omega) (gF.first X1 rfl)
  refine ⟨c0, cI', U, fO, fI', hU, fun t ht => ?_⟩
  jvm_step X.here [hx, hdg]
  rw [multianewarray.sem, wp_bind', W.resolveClassAt_links (t := T.setTop (F0 m pc ls (.int k :: .int n :: rest))) (mm := m) (State.method?_setTop (F0 m pc ls (.int k :: .int n :: rest)) X.here.top) gv, wp_bind']
  show wp (popN ([.int n, .int k] : List Value).length) _ _ e _ _ ((T.setVm vm1).setTop (F0 m pc ls (.int k :: .int n :: rest)))
  rw [popN_top (args := [.int n, .int k]) (rest := rest) X1.here.top rfl]
  simp only [List.mapM_cons, List.mapM_nil, wp_bind', wp_pure']
  rw [multianewarray.make]
  simp only [wp_bind', W.ite, if_neg hn, wp_pure', W.theClass]
  refine ⟨k1, a1, ?_⟩
  simp only [a3]
  have hf : List.find? (fun x : Int32 => decide (x < 0)) [k] = none := by simp [hk]
  simp only [hf, ite_self]
  rw [wp_bind']
  refine W.newArray_of (s := (T.setVm vm1).setTop (F0 m pc ls rest)) a1 a3 (by omega) (by show ¬ n.toNatClampNeg * 4 > _; omega) (by show T.heap.size < _; omega) (by show T.slotsUsed + _ ≤ _; omega) rfl fun a' => ?_
  have hr : ([:n.toNatClampNeg] : Std.Legacy.Range).size = n.toNatClampNeg := by simp [Std.Legacy.Range.size]
  rw [wp_bind', Std.Legacy.Range.forIn_eq_forIn_range', hr]
  have es : ((T.setVm vm1).setTop (F0 m pc ls rest)).pushCell { cls := c0, slots := Array.replicate n.toNatClampNeg .null } = ((T.setVm vm1).pushCell (gO c0 n.toNatClampNeg T.heap.size 0)).setTop (F0 m pc ls rest) := by
    rw [← gO_zero]
    rfl
  rw [es]
  refine hwp _ _ _ _ fun d2 a2 => ?_
  simp only [wp_pure', wp_bind', W.mark, W.pushRef]
  refine ⟨F0 m pc ls rest, State.topJava?_setTop' _ hU.1.here.top, fun acts => ?_⟩
  rw [State.setTop_setTop]
  simp [jvm, hU.1.here.top]
  exact ht
end GRID
