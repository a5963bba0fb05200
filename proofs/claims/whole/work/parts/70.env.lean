/-! THE ENVIRONMENT AT THE LAW'S ENTRY -/
theorem xm_in : ∀ q ∈ xMs, xwM q ∈ lw_tbl := by decide +kernel
theorem xc_in : ∀ C ∈ xCs, xwC C ∈ lw_tbl := by decide +kernel
def stT : Term := .static "java/util/ArrayList" "DEFAULTCAPACITY_EMPTY_ELEMENTDATA" "[Ljava/lang/Object;"
theorem gv_len {args : Array Value} {s : State} (h : (Jvm.Cond.and given_1 narrow_1).before args s = true) : (Cond.eq (.length stT) (.int 0)).before args s = true := flat_of_before _ h _ (by decide +kernel)
theorem gv_arr {args : Array Value} {s : State} (h : (Jvm.Cond.and given_1 narrow_1).before args s = true) : (Cond.arrayOf stT (.object "java/lang/Object")).before args s = true := flat_of_before _ h _ (by decide +kernel)
theorem gv_mir {args : Array Value} {s : State} (h : (Jvm.Cond.and given_1 narrow_1).before args s = true) : (Cond.isRef (.mirror "[Ljava/lang/Object;")).before args s = true := flat_of_before _ h _ (by decide +kernel)
theorem env_arr {args : Array Value} {s : State} {ty : FieldType} (h : (Cond.arrayClass ty).before args s = true) (hn : ∀ C, ty ≠ .object C) : ∃ c : ClassId, ArrOfT s c ty ∧ va_RA s c ty := by
  obtain ⟨c, k, comp, h1, h2, h3⟩ := Cond.arrayClass_spec h
  refine ⟨c, fun n z => ⟨(fun q hq => by cases hq), k, h2, comp, h3⟩, ?_⟩
  cases ty <;> first | exact h1 | exact absurd rfl (hn _)
theorem env_cls {args : Array Value} {s : State} (hu : ∀ w ∈ uw, w.before args s = true) (c : Nat) : ∃ p : ClassId × (Nat → Nat), ∀ q : vw_C, vwCl[c]? = some q → u_Kn s q.1 q.2.1 q.2.2 p.1 p.2 := by
  have one : ∀ {ci : Nat} {C : String} {T : u_T} {N : Nat} {ty : Nat → FieldType}, clOK ci C T N ty → c = ci → ∃ p : ClassId × (Nat → Nat), ∀ q : vw_C, vwCl[c]? = some q → u_Kn s q.1 q.2.1 q.2.2 p.1 p.2 := fun {ci C T N ty} hc e => by
    subst e
    obtain ⟨cC, iS, h⟩ := u_known hu hc.2.1 (hu _ hc.2.2.2.2.1)
    exact ⟨(cC, iS), fun q hq => by rw [hc.1] at hq; cases hq; exact h⟩
  have hc : c = 0 ∨ c = 1 ∨ c = 2 ∨ c = 3 ∨ c = 4 ∨ c = 5 ∨ c = 6 ∨ c = 7 ∨ c = 8 ∨ c = 9 ∨ c = 10 ∨ c = 11 ∨ c = 12 ∨ 13 ≤ c := by omega
  rcases hc with e | e | e | e | e | e | e | e | e | e | e | e | e | e
  · exact one ok0 e
  · exact one ok1 e
  · exact one ok2 e
  · exact one ok3 e
  · exact one ok4 e
  · exact one ok5 e
  · exact one ok6 e
  · exact one ok7 e
  · exact one ok8 e
  · exact one ok9 e
  · exact one ok10 e
  · exact one ok11 e
  · exact one ok12 e
  · refine ⟨(0, fun _ => 0), fun q hq => ?_⟩
    have : c < 13 := (List.getElem?_eq_some_iff.mp hq).1
    omega
theorem env_start {args : Array Value} {s : State} (hts : ∀ w ∈ lw_tbl, w.before args s = true) (hgv : (Jvm.Cond.and given_1 narrow_1).before args s = true) {A : Nat → Prop} (hA : ∀ a : Nat, a < s.heap.size → ¬ A a) : ∃ E : EV, evK E s ∧ evZ E A s s.heap ∧ aoA s := by
  have hu : ∀ w ∈ uw, w.before args s = true := fun w h => hts w (uw_in h)
  obtain ⟨c0, i1, i2⟩ := env_arr (hu _ u41) (fun C z => by cases z)
  obtain ⟨c1, l1, l2⟩ := env_arr (hu _ u42) (fun C z => by cases z)
  obtain ⟨c2, z1, z2⟩ := env_arr (hu _ u866) (fun C z => by cases z)
  have hao := hts _ u248
  have haa := aoA.of (hts _ u756)
  obtain ⟨comp, c3, k3, o1, o2, o3, o4, o5⟩ := Cond.arrayOver_spec hao
  have haa2 := haa
  obtain ⟨comr, c4, k4, r1, r3, r4, r5⟩ := haa2
  obtain ⟨mi, hmi⟩ := va_Mi.of (gv_mir hgv)
  have hlen := gv_len hgv
  obtain ⟨t, cell, ht, hcell, hof, hsz⟩ : ∃ (t : Nat) (cell : Cell), stT.eval args s none [] s = some (.ref t) ∧ s.heap[t]? = some cell ∧ s.isArrayOf cell (.object "java/lang/Object") ∧ cell.slots.size = 0 := by
    cases hv : (Term.length stT).eval args s none [] s with
    | none => simp [Cond.before, Cond.holds, Cond.value, hv] at hlen
    | some v =>
      obtain ⟨t, cell, h1, h2, h3, h4⟩ := Jvm.Free.SB.Term.length_small hv
      have h5 := (State.arrayAt?_spec h2).1
      refine ⟨t, cell, h1, h5, (Cond.arrayOf_spec (gv_arr hgv) h1 h5).1, ?_⟩
      rw [h3] at hv
      have h6 := Cond.eq_ints hv (show (Term.int 0).eval args s none [] s = some (.int 0) from rfl)
      simp only [Cond.before, Cond.holds, h6] at hlen
      have h7 : cell.slots.size.toInt32 = 0 := by simpa using hlen
      have h8 : (cell.slots.size.toInt32).toInt = (cell.slots.size : Int) := nI_toInt h4
      rw [h7] at h8
      have : (0 : Int32).toInt = 0 := rfl
      omega
  refine ⟨((fun c => (env_cls hu c).choose.1, fun c => (env_cls hu c).choose.2), fun k => if k = 0 then c0 else if k = 1 then c1 else if k = 2 then c2 else if k = 3 then c3 else if k = 4 then c4 else if k = 10 then mi else t), ⟨⟨fun c q hq => (env_cls hu c).choose_spec q hq, fun k q hk => ?_⟩, fun C hC => va_Nw.of rfl (hts _ (xc_in C hC)), fun q hq => va_Nw.of rfl (hts _ (xm_in q hq)), va_Dc.of (hts _ u1073), va_AO.of hao, hmi⟩, ⟨va_Zref (hts _ u62) (hu _ u6) ht hA, cell, hcell, hof, hsz, hA t (Array.getElem?_eq_some_iff.mp hcell).1⟩, haa⟩
  have hk5 : k < 5 := (List.getElem?_eq_some_iff.mp hk).1
  have hk' : k = 0 ∨ k = 1 ∨ k = 2 ∨ k = 3 ∨ k = 4 := by omega
  rcases hk' with rfl | rfl | rfl | rfl | rfl
  · cases hk; exact ⟨i1, i2⟩
  · cases hk; exact ⟨l1, l2⟩
  · cases hk; exact ⟨z1, z2⟩
  · cases hk; exact ⟨fun n z => ⟨(fun q hq => by cases hq), k3, o3, comp, o4⟩, k3, comp, o3, o4, o1, o5⟩
  · cases hk; exact ⟨fun n z => ⟨(fun q hq => by cases hq), k4, r3, comr, r4⟩, r5⟩
/-! BOTH PICTURES SIDE BY SIDE -/
theorem md_ext {E : EV} {A : Nat → Prop} {σ τ : St} {M : Nat → Nat} {H : Heap} (h : Md E A σ M H) (e : eqM τ σ) : Md E A τ M H := by
  obtain ⟨g, h1, h2⟩ := h
  have ec : ∀ t, mval t = true → mcont E (sF τ 3 g) M t = mcont E (sF σ 3 g) M t := fun t ht => by
    have hm := mval_iff ht
    have et : ∀ u, u < 90 ∨ (100 ≤ u ∧ u < 400) → sF τ 3 g u = sF σ 3 g u := fun u hu => by
      unfold sF
      by_cases c : u = 3
      · rw [if_pos c, if_pos c]
      · rw [if_neg c, if_neg c, e u hu]
    have ef : mfs (sF τ 3 g) M = mfs (sF σ 3 g) M := by
      unfold mfs
      rw [et 0 (by omega), et 2 (by omega), et 11 (by omega), et 15 (by omega), et 23 (by omega), et 26 (by omega), et 28 (by omega), et 30 (by omega), et 35 (by omega)]
    unfold mcont
    rw [ef, et 16 (by omega), et t (by omega)]
  exact ⟨g, fun t ht => by rw [ec t ht]; exact h1 t ht, h2⟩
theorem md_reA {E : EV} {A A' : Nat → Prop} {σ : St} {M : Nat → Nat} {H : Heap} (h : Md E A σ M H) (hA : ∀ t, mval t = true → A' (M t)) : Md E A' σ M H := by
  obtain ⟨g, h1, h2, h3⟩ := h
  exact ⟨g, h1, h2, hA⟩
theorem md_lt {E : EV} {A : Nat → Prop} {σ : St} {M : Nat → Nat} {H : Heap} (h : Md E A σ M H) {t : Nat} (ht : mval t = true) : M t < H.size := by
  obtain ⟨g, h1, -⟩ := h
  exact at_lt (h1 t ht)
def reg1 (n : Nat) (M : Nat → Nat) : Nat → Prop := fun q => n ≤ q ∧ ∀ t, mval t = true → q ≠ M t
def reg2 (n : Nat) (M : Nat → Nat) : Nat → Prop := fun q => (∃ t, mval t = true ∧ q = M t) ∨ n ≤ q
theorem md_stay {E : EV} {A : Nat → Prop} {σ : St} {M : Nat → Nat} {H H1 : Heap} {n : Nat} (h : Md E A σ M H) (hk : ∀ q : Nat, q < H.size → ¬ reg1 n M q → H1[q]? = H[q]?) : Md E A σ M H1 :=
  md_kept h (fun t ht => hk _ (md_lt h ht) (fun z => z.2 t ht rfl))
theorem cd_stay {E : EV} {σ : St} {L : Nat → Nat → Nat} {M : Nat → Nat} {H H1 : Heap} {n : Nat} (h : Cd E (reg1 n M) σ L H) (hk : ∀ q : Nat, q < H.size → ¬ reg2 H.size M q → H1[q]? = H[q]?) : Cd E (reg1 n M) σ L H1 :=
  cd_kept h (fun k i hv => hk _ (cd_lt h hv) (fun z => by
    rcases z with ⟨t, ht, e⟩ | z
    · exact (cd_A h hv).2 t ht e
    · have := cd_lt h hv
      omega))
/-- both at the head of the law's loop -/
def LI (E : EV) (n x y : Nat) (M : Nat → Nat) (H : Heap) : Prop := ∃ (σ : St) (L : Nat → Nat → Nat), Cd E (reg1 n M) σ L H ∧ Md E (fun _ => True) σ M H ∧ Inv σ ∧ L 0 0 = x ∧ M 0 = y ∧ ∀ t, mval t = true → n ≤ M t
