/-! THE REFERENCE'S PICTURE AT ITS BEGINNING -/
/-- a writer's contract that also knows rows of rows -/
def CtX (l : Launch) (E : EV) (y : MethodName) (cc : ByteArray) (nL : Nat) (ret : Option FieldType) (fr lo mc ms : Nat) (A : Nat → Prop) (av : List Value) (P : Heap → Prop) (R : Option Value → Heap → Prop) : Prop :=
  Met l y (Cond.code y cc nL ret :: uw) { frames := fr, cells := mc, slots := ms, locals := lo }
    (fun v U => v = av.toArray ∧ P U.heap ∧ (evK E U ∧ aoA U) ∧ (∀ q, U.heap.size ≤ q → A q) ∧ evZ E A U U.heap)
    (fun _ st o t => (∃ v, o = .returned v ∧ R v t.heap) ∧ va_F A st t) mc ms A
theorem CtX.of {l : Launch} {E : EV} {y : MethodName} {cc : ByteArray} {nL : Nat} {ret : Option FieldType} {fr lo mc ms : Nat} {A : Nat → Prop} {av : List Value} {P : Heap → Prop} {R : Option Value → Heap → Prop}
    (hy : plainName y.cls = true) (hlen : (lg_sl av).length ≤ nL)
    (body : ∀ (p : Program) (e : Env) (s : State) (m : MethodId) (below : List Frame) (meth : Method) (c : Code), p.tables.exec = Jvm.exec → c.code = cc → meth.sig.returnType = ret → c.maxLocals = nL → s.vm.findClass y.cls = some m.cls → (∀ w ∈ uw, w.before av.toArray s = true) → meth.locks = false → meth.name = y.name → evK E s → aoA s → P s.heap → (∀ q, s.heap.size ≤ q → A q) → evZ E A s s.heap →
      ∀ ls : Array Slot, lv_has ls nL (lv_args 0 av) → W p l e { frames := fr, cells := mc, slots := ms, locals := lo } s m av.toArray below meth c s.heap [] 0 0 (QT below s av.toArray mc ms A R) (F0 m 0 ls [])) :
    CtX l E y cc nL ret fr lo mc ms A av P R := by
  refine Met.ofW (cc := cc) (maxL := nL) (ret := ret) hy rfl ?_
  intro p e s m args below meth c s₁ B hml hv
  obtain ⟨rfl, hP, ⟨hE, hO⟩, hA, hZ⟩ := hv
  have hts := atoms_spec (ws := Cond.code y cc nL ret :: uw) B.pre
  have hl := lv_entry av (n := nL) hlen
  rw [lg_entry_eq]
  exact body p e s m below meth c B.exec B.bytes B.returns hml (findClass_of_methodNamed B.named) (fun w h => hts w (List.mem_cons_of_mem _ h)) B.notSynchronized (name_of_methodNamed B.named B.method).1 hE hO hP hA hZ _ hl
section CTX
variable {p : Program} {l : Launch} {e : Env} {R : Room} {s : State} {m : MethodId} {args : Array Value} {below : List Frame} {meth : Method} {c : Code} {H : Heap} {locs : List Loc} {cells slots : Nat} {Q : State → Prop} {E : EV}
variable {pc : Nat} {ls : Array Slot} {rest st0 : List Value} {y : MethodName} {cc c2 : ByteArray} {nL n2 n fr lo mc ms index : Nat} {A A1 : Nat → Prop} {As : List Value} {P : Heap → Prop} {Rv : Option Value → Heap → Prop} {own : String} {b : Nat}
theorem ctX_I (hx : p.tables.exec = Jvm.exec) (hb : c.code = cc) (hml : c.maxLocals = nL) (hown : s.vm.findClass own = some m.cls) (hu : ∀ w ∈ uw, w.before args s = true) (hE : evK E s) (hO : aoA s) (hZ : evZ E A s s.heap) (hS : va_S A s.heap H locs) (hAA : ∀ q, A1 q → A q) (hA1 : ∀ q, H.size ≤ q → A1 q) (hM : CtX l E y c2 n2 none fr lo mc ms A1 (.ref b :: As) P Rv) (hk : calI y c2 n2 n) (hl : Cond.methodLink own index y ∈ uw) (hP : P H)
    (hR : fr + 1 ≤ R.frames ∧ 8 + (n2 + 11) + lo ≤ R.locals) (hn : As.length = n) (hsz : ls.size = nL) (hst : st0 = As.reverse ++ .ref b :: rest) (hW : (rest.map fun v => v.category).sum ≤ 8) (hf : cells + mc ≤ R.cells ∧ slots + ms ≤ R.slots) (hdg : decode cc pc = .ok (.invokespecial index, 3))
    (kk : ∀ (v : Option Value) (H1 : Heap) (locs1 : List Loc), Rv v H1 → va_S A s.heap H1 locs1 → H.size ≤ H1.size → (∀ q : Nat, q < H.size → ¬ A1 q → H1[q]? = H[q]?) → W p l e R s m args below meth c H1 locs1 (cells + mc) (slots + ms) Q (F0 m (pc + 3) ls (v.toList ++ rest))) : W p l e R s m args below meth c H locs cells slots Q (F0 m pc ls st0) :=
  ct_on (va_runI ⟨hx, hb, hml, hown, hu⟩ hM ⟨calB.use hk.1 hu hl hR, hk.2.1, hu _ hk.2.2⟩ ⟨fun a U g mk q => ⟨q.1, q.2.1, ⟨q.2.2.1.1.call g mk a, aoA.moved (u := U) (U := U.calling g mk a) (Vm.Alike.refl U.vm) q.2.2.1.2⟩, q.2.2.2.1, q.2.2.2.2.same g mk a⟩, fun U hU hW => ⟨rfl, by rw [hU]; exact hP, ⟨hE.warm hW, aoA.moved hW.alike hO⟩, by rw [hU]; exact hA1, by rw [hU]; exact hZ.next hW.alike hS hAA⟩⟩ rfl hn hsz hst (lv_room hW) hdg hf) hS hAA kk
end CTX
/-- the order in which the arrays are made -/
def mkey (t : Nat) : Nat := if t < 100 then 100 * t else if t < 200 then t + 1 else t + 2701
def mU (M : Nat → Nat) (t v : Nat) : Nat → Nat := fun u => if u = t then v else M u
def mR (M : Nat → Nat) (t rb q : Nat) : Nat → Nat := fun u => if u = t then q else if rb ≤ u ∧ u < rb + 60 then q + 1 + (u - rb) else M u
def Pm (E : EV) (A : Nat → Prop) (a : Nat) (M : Nat → Nat) (b : Nat) (H : Heap) : Prop :=
  ∀ t, mval t = true → t ≠ 0 → mkey t < b → va_at E.1 vwCl (M t, mcont E s0 M t) H ∧ A (M t) ∧ M t ≠ a ∧ ∀ u, mval u = true → u ≠ 0 → mkey u < b → M t = M u → t = u
theorem mval_iff {t : Nat} (h : mval t = true) : t = 0 ∨ t = 1 ∨ t = 29 ∨ t = 16 ∨ (3 ≤ t ∧ t ≤ 10) ∨ (12 ≤ t ∧ t ≤ 14) ∨ (17 ≤ t ∧ t ≤ 22) ∨ t = 24 ∨ t = 25 ∨ t = 27 ∨ (31 ≤ t ∧ t ≤ 34) ∨ (100 ≤ t ∧ t < 160) ∨ (200 ≤ t ∧ t < 260) := by
  simp only [mval, mint, Bool.or_eq_true, Bool.and_eq_true, beq_iff_eq, decide_eq_true_eq] at h
  omega
section PMS
variable {E : EV} {A : Nat → Prop} {a b b' : Nat} {M M' : Nat → Nat} {H H1 : Heap}
theorem mcont_M {t : Nat} (h0 : t ≠ 0) (h1 : t = 1 → ∀ i, i < 60 → M' (100 + i) = M (100 + i)) (h2 : t = 29 → ∀ i, i < 60 → M' (200 + i) = M (200 + i)) : mcont E s0 M' t = mcont E s0 M t := by
  unfold mcont
  rw [if_neg h0, if_neg h0]
  by_cases e1 : t = 1
  · rw [if_pos e1, if_pos e1]
    have : (fun i => if i < 60 then some (M' (100 + i)) else none) = (fun i => if i < 60 then some (M (100 + i)) else none) := funext fun i => by
      by_cases hi : i < 60
      · rw [if_pos hi, if_pos hi, h1 e1 i hi]
      · rw [if_neg hi, if_neg hi]
    rw [this]
  · rw [if_neg e1, if_neg e1]
    by_cases e2 : t = 29
    · rw [if_pos e2, if_pos e2]
      have : (fun i => if i < 60 then some (M' (200 + i)) else none) = (fun i => if i < 60 then some (M (200 + i)) else none) := funext fun i => by
        by_cases hi : i < 60
        · rw [if_pos hi, if_pos hi, h2 e2 i hi]
        · rw [if_neg hi, if_neg hi]
      rw [this]
    · rw [if_neg e2, if_neg e2]
theorem pm_put (h : Pm E A a M b H) (o : ∀ q : Nat, q ≠ a → H1[q]? = H[q]?) : Pm E A a M b H1 := fun t h1 h2 h3 => by
  obtain ⟨g1, g2, g3, g4⟩ := h t h1 h2 h3
  exact ⟨g1.kept (o _ g3), g2, g3, g4⟩
theorem row_v {i : Nat} (hi : i < 60) : mval (100 + i) = true ∧ mval (200 + i) = true := ⟨mint_val (mint_l hi).1, mint_val (mint_e hi).1⟩
theorem pm_one {t0 n : Nat} (h : Pm E A a M b H) (hk : ∀ t, mval t = true → t ≠ 0 → mkey t < b' → mkey t < b ∨ t = t0) (hb : b ≤ b') (ht : ¬ mkey t0 < b) (ht0 : t0 < 100 ∧ t0 ≠ 1 ∧ t0 ≠ 29) (hn : n = H.size) (ha : a < n) (hA : A n) (hc : va_at E.1 vwCl (n, mcont E s0 (mU M t0 n) t0) H1) (o : ∀ q : Nat, q < n → H1[q]? = H[q]?) : Pm E A a (mU M t0 n) b' H1 := by
  have eo : ∀ t, t ≠ t0 → mU M t0 n t = M t := fun t z => if_neg z
  have en : mU M t0 n t0 = n := if_pos rfl
  have old : ∀ t, mval t = true → t ≠ 0 → mkey t < b → M t < n := fun t h1 h2 h3 => by rw [hn]; exact at_lt (h t h1 h2 h3).1
  intro t h1 h2 h3
  by_cases e : t = t0
  · subst e
    rw [en]
    refine ⟨hc, hA, by omega, fun u g1 g2 g3 g4 => ?_⟩
    by_cases e2 : u = t
    · exact e2.symm
    · rw [eo u e2] at g4
      have := old u g1 g2 ((hk u g1 g2 g3).resolve_right e2)
      omega
  · have h4 := (hk t h1 h2 h3).resolve_right e
    obtain ⟨g1, g2, g3, g4⟩ := h t h1 h2 h4
    have hl := old t h1 h2 h4
    rw [eo t e, mcont_M (M := M) (M' := mU M t0 n) h2 (fun _ i hi => eo _ (by omega)) (fun _ i hi => eo _ (by omega))]
    refine ⟨g1.kept (o _ hl), g2, g3, fun u k1 k2 k3 k4 => ?_⟩
    by_cases e2 : u = t0
    · rw [e2, en] at k4; omega
    · rw [eo u e2] at k4
      exact g4 u k1 k2 ((hk u k1 k2 k3).resolve_right e2) k4
theorem pm_rows {t0 rb n : Nat} (h : Pm E A a M b H) (hk : ∀ t, mval t = true → t ≠ 0 → mkey t < b' → mkey t < b ∨ t = t0 ∨ (rb ≤ t ∧ t < rb + 60)) (ht0 : (t0 = 1 ∧ rb = 100 ∧ b = 0) ∨ (t0 = 29 ∧ rb = 200 ∧ b = 2701)) (hn : n = H.size) (ha : a < n) (hA : ∀ q, n ≤ q → A q) (hc : ra E n 60 (fun i => if i < 60 then some (n + 1 + i) else none) H1) (hr : ∀ i, i < 60 → ia E (n + 1 + i) 8 (fun _ => 0) H1) (o : ∀ q : Nat, q < n → H1[q]? = H[q]?) : Pm E A a (mR M t0 rb n) b' H1 := by
  have en : mR M t0 rb n t0 = n := if_pos rfl
  have er : ∀ i, i < 60 → mR M t0 rb n (rb + i) = n + 1 + i := fun i hi => by
    unfold mR
    rw [if_neg (by omega), if_pos (by omega)]
    omega
  have eo : ∀ t, t ≠ t0 → ¬ (rb ≤ t ∧ t < rb + 60) → mR M t0 rb n t = M t := fun t z1 z2 => by
    unfold mR
    rw [if_neg z1, if_neg z2]
  have old : ∀ t, mval t = true → t ≠ 0 → mkey t < b → M t < n := fun t h1 h2 h3 => by rw [hn]; exact at_lt (h t h1 h2 h3).1
  have oldn : ∀ t, mval t = true → mkey t < b → t ≠ t0 ∧ ¬ (rb ≤ t ∧ t < rb + 60) := fun t h1 h3 => by
    have := mval_iff h1
    unfold mkey at h3
    split at h3
    · omega
    · split at h3 <;> omega
  have cls : ∀ t, mval t = true → t ≠ 0 → mkey t < b' → (mkey t < b ∧ mR M t0 rb n t = M t ∧ M t < n) ∨ (t = t0 ∧ mR M t0 rb n t = n) ∨ (∃ i, i < 60 ∧ t = rb + i ∧ mR M t0 rb n t = n + 1 + i) := fun t h1 h2 h3 => by
    rcases hk t h1 h2 h3 with z | z | z
    · obtain ⟨o1, o2⟩ := oldn t h1 z
      exact Or.inl ⟨z, eo t o1 o2, old t h1 h2 z⟩
    · exact Or.inr (Or.inl ⟨z, by rw [z]; exact en⟩)
    · refine Or.inr (Or.inr ⟨t - rb, by omega, by omega, ?_⟩)
      have := er (t - rb) (by omega)
      rw [show rb + (t - rb) = t by omega] at this
      exact this
  intro t h1 h2 h3
  have inj : ∀ u, mval u = true → u ≠ 0 → mkey u < b' → mR M t0 rb n t = mR M t0 rb n u → t = u := fun u k1 k2 k3 k4 => by
    rcases cls t h1 h2 h3 with ⟨z1, z2, z3⟩ | ⟨z1, z2⟩ | ⟨i, z1, z2, z3⟩ <;> rcases cls u k1 k2 k3 with ⟨w1, w2, w3⟩ | ⟨w1, w2⟩ | ⟨j, w1, w2, w3⟩
    · rw [z2, w2] at k4
      exact (h t h1 h2 z1).2.2.2 u k1 k2 w1 k4
    all_goals omega
  rcases cls t h1 h2 h3 with ⟨z1, z2, z3⟩ | ⟨z1, z2⟩ | ⟨i, z1, z2, z3⟩
  · obtain ⟨g1, g2, g3, g4⟩ := h t h1 h2 z1
    obtain ⟨o1, o2⟩ := oldn t h1 z1
    refine ⟨?_, by rw [z2]; exact g2, by rw [z2]; exact g3, inj⟩
    rw [z2, mcont_M (M := M) (M' := mR M t0 rb n) h2 (fun e i hi => ?_) (fun e i hi => ?_)]
    · exact g1.kept (o _ z3)
    · refine eo _ (by omega) ?_
      subst e
      rcases ht0 with ⟨y1, y2, y3⟩ | ⟨y1, y2, y3⟩ <;> omega
    · subst e
      rcases ht0 with ⟨y1, y2, y3⟩ | ⟨y1, y2, y3⟩ <;> omega
  · refine ⟨?_, by rw [z2]; exact hA _ (Nat.le_refl _), by rw [z2]; omega, inj⟩
    rw [z2]
    subst z1
    rcases ht0 with ⟨y1, y2, y3⟩ | ⟨y1, y2, y3⟩
    · subst y1; subst y2
      show ra E n 60 (fun i => if i < 60 then some (mR M 1 100 n (100 + i)) else none) H1
      have : (fun i => if i < 60 then some (mR M 1 100 n (100 + i)) else none) = (fun i => if i < 60 then some (n + 1 + i) else none) := funext fun i => by
        by_cases hi : i < 60
        · rw [if_pos hi, if_pos hi, er i hi]
        · rw [if_neg hi, if_neg hi]
      rw [this]; exact hc
    · subst y1; subst y2
      show ra E n 60 (fun i => if i < 60 then some (mR M 29 200 n (200 + i)) else none) H1
      have : (fun i => if i < 60 then some (mR M 29 200 n (200 + i)) else none) = (fun i => if i < 60 then some (n + 1 + i) else none) := funext fun i => by
        by_cases hi : i < 60
        · rw [if_pos hi, if_pos hi, er i hi]
        · rw [if_neg hi, if_neg hi]
      rw [this]; exact hc
  · refine ⟨?_, by rw [z3]; exact hA _ (by omega), by rw [z3]; omega, inj⟩
    have hm : mint t = true ∧ t ≠ 3 ∧ mlen t = 8 := by
      rw [z2]
      rcases ht0 with ⟨y1, y2, y3⟩ | ⟨y1, y2, y3⟩
      · rw [y2]; exact mint_l z1
      · rw [y2]; exact mint_e z1
    obtain ⟨n0, n1, n2, n3⟩ := mint_ne hm.1
    rw [z3]
    have e : mcont E s0 (mR M t0 rb n) t = .inl (E.2 0, 8, .inl (fun _ => 0)) := by
      unfold mcont
      rw [if_neg n0, if_neg n1, if_neg n2, if_neg n3, hm.2.2]
      rfl
    rw [e]
    exact hr i z1
theorem md_init (h : Pm E A a M 4000 H) (h0 : M 0 = a) (hA : A a) (ho : ob E a 12 (mfs s0 M) H) : Md E A s0 M H := by
  have hk : ∀ t, mval t = true → mkey t < 4000 := fun t ht => by
    have := mval_iff ht
    unfold mkey
    split
    · omega
    · split <;> omega
  have hg : sF s0 3 (fun _ => 0) = s0 := by
    funext t
    unfold sF s0
    split <;> rfl
  refine ⟨fun _ => 0, ?_⟩
  rw [hg]
  refine ⟨fun t ht => ?_, fun t u ht hu e => ?_, fun t ht => ?_⟩
  · by_cases e : t = 0
    · subst e
      rw [h0]; exact ho
    · exact (h t ht e (hk t ht)).1
  · by_cases e1 : t = 0
    · by_cases e2 : u = 0
      · rw [e1, e2]
      · rw [e1, h0] at e
        exact absurd e.symm (h u hu e2 (hk u hu)).2.2.1
    · by_cases e2 : u = 0
      · rw [e2, h0] at e
        exact absurd e (h t ht e1 (hk t ht)).2.2.1
      · exact (h t ht e1 (hk t ht)).2.2.2 u hu e2 (hk u hu) e
  · by_cases e : t = 0
    · rw [e, h0]; exact hA
    · exact (h t ht e (hk t ht)).2.1
end PMS
section MSTEP
variable {p : Program} {l : Launch} {e : Env} {R : Room} {s : State} {m : MethodId} {args : Array Value} {below : List Frame} {meth : Method} {c : Code} {H : Heap} {locs : List Loc} {cells slots : Nat} {Q : State → Prop} {E : EV}
variable {cc : ByteArray} {pc : Nat} {ls : Array Slot} {rest : List Value} {A : Nat → Prop} {a b b' t0 N index : Nat} {M : Nat → Nat} {fs : List Value} {n k : Int32}
theorem mi_i (hx : p.tables.exec = Jvm.exec) (hb : c.code = cc) (hown : s.vm.findClass "WeddingRegisterModel" = some m.cls) (hu : ∀ w ∈ uw, w.before args s = true) (hE : evK E s) (hnm : meth.name = "<init>") (hA : ∀ q, s.heap.size ≤ q → A q) (hAa : A a) (harr : Cond.arrayClass .int ∈ uw) (hS : va_S A s.heap H locs) (ho : ob E a 12 fs H) (hQ : Pm E A a M b H) (oc : ∀ q : Nat, q < s.heap.size → q ≠ a → H[q]? = s.heap[q]?) (hk0 : t0 < 36) (hlen : t0 < fs.length) (hl : Cond.fieldLink "WeddingRegisterModel" index "WeddingRegisterModel" (TX11 t0).2.1 (TX11 t0).2.2.1 ∈ uw) (hs : (TX11 t0).1 = "WeddingRegisterModel") (hfin : (TX11 t0).2.2.2 = true) (hty : tyX11 t0 = .array .int) (ky : ∀ t, mval t = true → t ≠ 0 → mkey t < b' → mkey t < b ∨ t = t0) (hbb : b ≤ b') (ht : ¬ mkey t0 < b) (ht0 : t0 < 100 ∧ t0 ≠ 1 ∧ t0 ≠ 29) (hmc : ∀ M' : Nat → Nat, mcont E s0 M' t0 = .inl (E.2 0, N, .inl (fun _ => 0))) (hn : ¬ n < 0) (hN : n.toNatClampNeg = N) (hbytes : N * 4 ≤ 536870912) (hcells : cells + 1 ≤ R.cells) (hslots : slots + N ≤ R.slots) (d1 : decode cc pc = .ok (.newarray .int, 2)) (d2 : decode cc (pc + 2) = .ok (.putfield index, 3))
    (kk : ∀ (H1 : Heap) (locs1 : List Loc) (q : Nat), ob E a 12 (fs.set t0 (.ref q)) H1 → Pm E A a (mU M t0 q) b' H1 → (∀ r : Nat, r < s.heap.size → r ≠ a → H1[r]? = s.heap[r]?) → va_S A s.heap H1 locs1 → W p l e R s m args below meth c H1 locs1 (cells + 1) (slots + N) Q (F0 m (pc + 2 + 3) ls rest)) : W p l e R s m args below meth c H locs cells slots Q (F0 m pc ls (.int n :: .ref a :: rest)) := by
  have hat := at_lt ho
  have hsz := hS.1
  refine nw_newi hx hb hu hE harr hS hn hN hbytes hcells hslots d1 (fun H1 hb1 hz oq hS => ?_)
  have ho1 := ho.kept (oq _ hat)
  have hQ1 := pm_one (b' := b') (t0 := t0) hQ ky hbb ht ht0 rfl hat (hA _ hsz) (by rw [hmc]; exact hb1) oq
  refine wr_putF (k := t0) hx hb hown hu hE ok12 hS hAa ho1 hk0 hl hs hfin hnm (by rw [hty]; rfl) (by rw [hty]; rfl) hlen d2 (fun H2 locs2 ho2 hz2 oq2 hS2 => ?_)
  exact kk H2 locs2 H.size ho2 (pm_put hQ1 oq2) (fun q h1 h2 => (oq2 q h2).trans ((oq q (Nat.lt_of_lt_of_le h1 hsz)).trans (oc q h1 h2))) hS2
theorem mi_z (hx : p.tables.exec = Jvm.exec) (hb : c.code = cc) (hown : s.vm.findClass "WeddingRegisterModel" = some m.cls) (hu : ∀ w ∈ uw, w.before args s = true) (hE : evK E s) (hnm : meth.name = "<init>") (hA : ∀ q, s.heap.size ≤ q → A q) (hAa : A a) (harr : Cond.arrayClass .boolean ∈ uw) (hS : va_S A s.heap H locs) (ho : ob E a 12 fs H) (hQ : Pm E A a M b H) (oc : ∀ q : Nat, q < s.heap.size → q ≠ a → H[q]? = s.heap[q]?) (hk0 : t0 < 36) (hlen : t0 < fs.length) (hl : Cond.fieldLink "WeddingRegisterModel" index "WeddingRegisterModel" (TX11 t0).2.1 (TX11 t0).2.2.1 ∈ uw) (hs : (TX11 t0).1 = "WeddingRegisterModel") (hfin : (TX11 t0).2.2.2 = true) (hty : tyX11 t0 = .array .boolean) (ky : ∀ t, mval t = true → t ≠ 0 → mkey t < b' → mkey t < b ∨ t = t0) (hbb : b ≤ b') (ht : ¬ mkey t0 < b) (ht0 : t0 < 100 ∧ t0 ≠ 1 ∧ t0 ≠ 29) (hmc : ∀ M' : Nat → Nat, mcont E s0 M' t0 = .inl (E.2 2, N, .inl (fun _ => 0))) (hn : ¬ n < 0) (hN : n.toNatClampNeg = N) (hbytes : N * 1 ≤ 536870912) (hcells : cells + 1 ≤ R.cells) (hslots : slots + N ≤ R.slots) (d1 : decode cc pc = .ok (.newarray .boolean, 2)) (d2 : decode cc (pc + 2) = .ok (.putfield index, 3))
    (kk : ∀ (H1 : Heap) (locs1 : List Loc) (q : Nat), ob E a 12 (fs.set t0 (.ref q)) H1 → Pm E A a (mU M t0 q) b' H1 → (∀ r : Nat, r < s.heap.size → r ≠ a → H1[r]? = s.heap[r]?) → va_S A s.heap H1 locs1 → W p l e R s m args below meth c H1 locs1 (cells + 1) (slots + N) Q (F0 m (pc + 2 + 3) ls rest)) : W p l e R s m args below meth c H locs cells slots Q (F0 m pc ls (.int n :: .ref a :: rest)) := by
  have hat := at_lt ho
  have hsz := hS.1
  refine nw_newz hx hb hu hE harr hS hn hN hbytes hcells hslots d1 (fun H1 hb1 hz oq hS => ?_)
  have ho1 := ho.kept (oq _ hat)
  have hQ1 := pm_one (b' := b') (t0 := t0) hQ ky hbb ht ht0 rfl hat (hA _ hsz) (by rw [hmc]; exact hb1) oq
  refine wr_putF (k := t0) hx hb hown hu hE ok12 hS hAa ho1 hk0 hl hs hfin hnm (by rw [hty]; rfl) (by rw [hty]; rfl) hlen d2 (fun H2 locs2 ho2 hz2 oq2 hS2 => ?_)
  exact kk H2 locs2 H.size ho2 (pm_put hQ1 oq2) (fun q h1 h2 => (oq2 q h2).trans ((oq q (Nat.lt_of_lt_of_le h1 hsz)).trans (oc q h1 h2))) hS2
theorem mi_r {rb ix : Nat} (hx : p.tables.exec = Jvm.exec) (hb : c.code = cc) (hown : s.vm.findClass "WeddingRegisterModel" = some m.cls) (hu : ∀ w ∈ uw, w.before args s = true) (hE : evK E s) (hO : aoA s) (hnm : meth.name = "<init>") (hA : ∀ q, s.heap.size ≤ q → A q) (hAa : A a) (harr : Cond.arrayClass .int ∈ uw) (hcl : Cond.classLink "WeddingRegisterModel" ix "[[I" ∈ uw) (hS : va_S A s.heap H locs) (ho : ob E a 12 fs H) (hQ : Pm E A a M b H) (oc : ∀ q : Nat, q < s.heap.size → q ≠ a → H[q]? = s.heap[q]?) (hk0 : t0 < 36) (hlen : t0 < fs.length) (hl : Cond.fieldLink "WeddingRegisterModel" index "WeddingRegisterModel" (TX11 t0).2.1 (TX11 t0).2.2.1 ∈ uw) (hs : (TX11 t0).1 = "WeddingRegisterModel") (hfin : (TX11 t0).2.2.2 = true) (hty : tyX11 t0 = .array (.array .int)) (ky : ∀ t, mval t = true → t ≠ 0 → mkey t < b' → mkey t < b ∨ t = t0 ∨ (rb ≤ t ∧ t < rb + 60)) (ht0 : (t0 = 1 ∧ rb = 100 ∧ b = 0) ∨ (t0 = 29 ∧ rb = 200 ∧ b = 2701)) (hn : ¬ n < 0) (hk : ¬ k < 0) (hN : n.toNatClampNeg = 60) (hM : k.toNatClampNeg = 8) (hcells : cells + (1 + 60) ≤ R.cells) (hslots : slots + (60 + 60 * 8) ≤ R.slots) (d1 : decode cc pc = .ok (.multianewarray ix 2, 4)) (d2 : decode cc (pc + 4) = .ok (.putfield index, 3))
    (kk : ∀ (H1 : Heap) (locs1 : List Loc) (q : Nat), ob E a 12 (fs.set t0 (.ref q)) H1 → Pm E A a (mR M t0 rb q) b' H1 → (∀ r : Nat, r < s.heap.size → r ≠ a → H1[r]? = s.heap[r]?) → va_S A s.heap H1 locs1 → W p l e R s m args below meth c H1 locs1 (cells + 1 + 60) (slots + 60 + 60 * 8) Q (F0 m (pc + 4 + 3) ls rest)) : W p l e R s m args below meth c H locs cells slots Q (F0 m pc ls (.int k :: .int n :: .ref a :: rest)) := by
  have hat := at_lt ho
  have hsz := hS.1
  refine nw_mna hx hb hown hu hE hcl hO harr hS hn hk hN hM (by decide) (by decide) hcells hslots d1 (fun H1 hb1 hr1 hz oq hS => ?_)
  have ho1 := ho.kept (oq _ hat)
  have hQ1 := pm_rows (b' := b') (t0 := t0) (rb := rb) hQ ky ht0 rfl hat (fun q hq => hA q (Nat.le_trans hsz hq)) hb1 hr1 oq
  refine wr_putF (k := t0) hx hb hown hu hE ok12 hS hAa ho1 hk0 hl hs hfin hnm (by rw [hty]; rfl) (by rw [hty]; rfl) hlen d2 (fun H2 locs2 ho2 hz2 oq2 hS2 => ?_)
  exact kk H2 locs2 H.size ho2 (pm_put hQ1 oq2) (fun q h1 h2 => (oq2 q h2).trans ((oq q (Nat.lt_of_lt_of_le h1 hsz)).trans (oc q h1 h2))) hS2
end MSTEP
