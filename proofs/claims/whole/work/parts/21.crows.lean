/-! ROWS OVER THE CLASS'S PICTURE -/
theorem okX_nI {x : Int32} (h : 0 ≤ x.toInt) : x = nI x.toNatClampNeg := by
  have h1 := i_clamp h
  have h2 := i_rng x
  rw [i_eq, nI_toInt (by omega)]
  omega
def okL (σ : St) (x : Int32) : Prop := 0 ≤ x.toInt ∧ x.toInt < (σ 2 0).toInt
def okO (σ : St) (x : Int32) : Prop := 0 ≤ x.toInt ∧ x.toInt < (σ 26 0).toInt
def okC (σ : St) (x : Int32) : Prop := 0 ≤ x.toInt ∧ x.toInt < (σ 35 0).toInt
theorem ok_lt {σ : St} {t : Nat} {x : Int32} (h : 0 ≤ x.toInt ∧ x.toInt < (σ t 0).toInt) : x.toNatClampNeg < nn σ t := by
  have h1 := i_clamp h.1
  have h2 := i_clamp (x := σ t 0) (by have := h.1; have := h.2; omega)
  have := h.2
  show x.toNatClampNeg < (σ t 0).toNatClampNeg
  omega
theorem ok_nI {σ : St} {t k : Nat} {N : Int} (hb : bnd (σ t 0) N) (h : k < nn σ t) : 0 ≤ (nI k).toInt ∧ (nI k).toInt < (σ t 0).toInt := by
  have h2 := i_clamp hb.1
  have h3 := i_rng (σ t 0)
  have h4 : k < (σ t 0).toNatClampNeg := h
  have h5 := nI_toInt (n := k) (by omega)
  exact ⟨by omega, by omega⟩
theorem rfo_n {L : Nat → Nat → Nat} {x : Int32} (h : x = -1) : va_rf (rfo L x) = .null := by unfold rfo; rw [if_pos h]; rfl
theorem rfo_s {L : Nat → Nat → Nat} {x : Int32} (h : ¬ x = -1) : va_rf (rfo L x) = .ref (L 21 x.toNatClampNeg) := by unfold rfo; rw [if_neg h]; rfl
theorem okP_ne {σ : St} {x : Int32} (h : okP σ x) : ¬ x = -1 := fun e => by
  have h1 := h.1
  rw [e] at h1
  exact absurd h1 (by decide)
section CROWS
variable {p : Program} {l : Launch} {e : Env} {R : Room} {s : State} {m : MethodId} {args : Array Value} {below : List Frame} {meth : Method} {c : Code} {H : Heap} {locs : List Loc} {cells slots : Nat} {Q : State → Prop} {E : EV}
variable {cc : ByteArray} {pc : Nat} {ls : Array Slot} {rest : List Value} {A : Nat → Prop} {a b : Nat} {H0 : Heap} {σ : St} {L : Nat → Nat → Nat}
theorem onQ {x : Int32} (k1 : x = -1 → W p l e R s m args below meth c H locs cells slots Q (F0 m pc ls (.null :: rest))) (k0 : ¬ x = -1 → W p l e R s m args below meth c H locs cells slots Q (F0 m pc ls (.ref (L 21 x.toNatClampNeg) :: rest))) : W p l e R s m args below meth c H locs cells slots Q (F0 m pc ls (va_rf (rfo L x) :: rest)) := by
  by_cases h : x = -1
  · rw [rfo_n h]; exact k1 h
  · rw [rfo_s h]; exact k0 h
theorem onO {B : Bool} (k1 : B = true → W p l e R s m args below meth c H locs cells slots Q (F0 m pc ls (.ref a :: rest))) (k0 : B = false → W p l e R s m args below meth c H locs cells slots Q (F0 m pc ls (.null :: rest))) : W p l e R s m args below meth c H locs cells slots Q (F0 m pc ls (va_rf (if B then some a else none) :: rest)) := by
  cases B with
  | true => exact k1 rfl
  | false => exact k0 rfl
theorem per_inj (h : Cd E A σ L H) {x y : Int32} (hx : okP σ x) (hy : okP σ y) (e : L 21 x.toNatClampNeg = L 21 y.toNatClampNeg) : x = y := by
  have h1 := (cd_inj h (k := 21) (k' := 21) (cv_of (by decide) (okP_lt hx)) (cv_of (by decide) (okP_lt hy)) e).2
  rw [okX_nI hx.1, okX_nI hy.1, h1]
theorem not_inj (h : Cd E A σ L H) {x y : Int32} (hx : okN σ x) (hy : okN σ y) (e : L 22 x.toNatClampNeg = L 22 y.toNatClampNeg) : x = y := by
  have h1 := (cd_inj h (k := 22) (k' := 22) (cv_of (by decide) (okN_lt hx)) (cv_of (by decide) (okN_lt hy)) e).2
  rw [okX_nI hx.1, okX_nI hy.1, h1]
/-- two references of a kind: equal just if their numbers are -/
theorem ac_eq {x y : Int32} {off : Int} {tgt : Nat} (hx : p.tables.exec = Jvm.exec) (hb : c.code = cc) (inj : a = b → x = y) (hab : x = y → a = b) (hdg : decode cc pc = .ok (.if_acmp .eq off, 3)) (ht : (pc : Int) + off = (tgt : Int))
    (kt : x = y → W p l e R s m args below meth c H locs cells slots Q (F0 m tgt ls rest)) (kf : ¬ x = y → W p l e R s m args below meth c H locs cells slots Q (F0 m (pc + 3) ls rest)) : W p l e R s m args below meth c H locs cells slots Q (F0 m pc ls (.ref b :: .ref a :: rest)) :=
  lv_acmp_eq (rx := some a) (ry := some b) hx hb hdg ht (fun h => kt (inj (Option.some.inj h))) (fun h => kf (fun z => h (by rw [hab z])))
theorem ac_ne {x y : Int32} {off : Int} {tgt : Nat} (hx : p.tables.exec = Jvm.exec) (hb : c.code = cc) (inj : a = b → x = y) (hab : x = y → a = b) (hdg : decode cc pc = .ok (.if_acmp .ne off, 3)) (ht : (pc : Int) + off = (tgt : Int))
    (kt : ¬ x = y → W p l e R s m args below meth c H locs cells slots Q (F0 m tgt ls rest)) (kf : x = y → W p l e R s m args below meth c H locs cells slots Q (F0 m (pc + 3) ls rest)) : W p l e R s m args below meth c H locs cells slots Q (F0 m pc ls (.ref b :: .ref a :: rest)) :=
  lv_acmp_ne (rx := some a) (ry := some b) hx hb hdg ht (fun h => kt (fun z => h (by rw [hab z]))) (fun h => kf (inj (Option.some.inj h)))
theorem cl_cast {own C : String} {T : u_T} {ty : Nat → FieldType} {N ci index : Nat} {fs : List Value} (hx : p.tables.exec = Jvm.exec) (hb : c.code = cc) (hown : s.vm.findClass own = some m.cls) (hu : ∀ w ∈ uw, w.before args s = true) (hE : evK E s) (hc : clOK ci C T N ty) (hl : Cond.classLink own index C ∈ uw) (ha : ob E a ci fs H) (hdg : decode cc pc = .ok (.checkcast index, 3))
    (k : W p l e R s m args below meth c H locs cells slots Q (F0 m (pc + 3) ls (.ref a :: rest))) : W p l e R s m args below meth c H locs cells slots Q (F0 m pc ls (.ref a :: rest)) :=
  va_castS hx hb hown (hu _ hl) (hE.1.1 ci _ hc.1).2 (recvAt hE hc.1 ha) hdg k
theorem ld_qn {k : Fin 4} {i : Nat} {r : Option Nat} (hx : p.tables.exec = Jvm.exec) (hb : c.code = cc) (hdg : decode cc pc = .ok (.aload_n k, 1)) (hi : (k : Nat) = i) (hl : ls[i]? = some (.val (va_rf r)))
    (kk : W p l e R s m args below meth c H locs cells slots Q (F0 m (pc + 1) ls (va_rf r :: rest))) : W p l e R s m args below meth c H locs cells slots Q (F0 m pc ls rest) := by
  cases r with
  | none => exact lv_aload_nN hx hb hdg hi hl kk
  | some x => exact lv_aload_n hx hb hdg hi hl kk
end CROWS
theorem c_LS0 (l : Launch) (E : EV) (A : Nat → Prop) (σ : St) (L : Nat → Nat → Nat) : Cr l E yJx4a65c_size_8abf5 cJx4a65c_size_8abf5 1 (some .int) 0 0 [.ref (L 9 0)] (fun H => Cd E A σ L H ∧ InvM σ) (some (.int (σ 2 0))) :=
  Cr.pre (P := fun (x : PLift (InvM σ)) H => Cd E A σ L H ∧ 0 < 6 + nn σ 11) (fun x => by
    obtain ⟨hI⟩ := x
    have h := c_Lsize l E A σ L 0
    rw [show nI (lc σ 0) = σ 2 0 from (cnt_nI hI.1.2.1).symm] at h
    exact h) (fun H h => ⟨⟨h.2⟩, h.1, by omega⟩)
theorem c_LG0 (l : Launch) (E : EV) (A : Nat → Prop) (σ : St) (L : Nat → Nat → Nat) (x : Int32) : Cr l E yJx4a65c_get_915e3 cJx4a65c_get_915e3 2 (some (.object "java/lang/Object")) 2 43 [.ref (L 9 0), .int x] (fun H => Cd E A σ L H ∧ okL σ x) (some (.ref (L 20 x.toNatClampNeg))) :=
  Cr.pre (P := fun (y : PLift (okL σ x)) H => Cd E A σ L H ∧ 0 < 6 + nn σ 11 ∧ x.toNatClampNeg < lc σ 0) (fun y => by
    obtain ⟨hx⟩ := y
    have h := c_Lget l E A σ L 0 x.toNatClampNeg
    rw [← okX_nI hx.1] at h
    exact h) (fun H h => ⟨⟨h.2⟩, h.1, by omega, ok_lt (t := 2) h.2⟩)
theorem c_LS1 (l : Launch) (E : EV) (A : Nat → Prop) (σ : St) (L : Nat → Nat → Nat) : Cr l E yJx4a65c_size_8abf5 cJx4a65c_size_8abf5 1 (some .int) 0 0 [.ref (L 9 1)] (fun H => Cd E A σ L H ∧ InvM σ) (some (.int (σ 11 0))) :=
  Cr.pre (P := fun (x : PLift (InvM σ)) H => Cd E A σ L H ∧ 1 < 6 + nn σ 11) (fun x => by
    obtain ⟨hI⟩ := x
    have h := c_Lsize l E A σ L 1
    rw [show nI (lc σ 1) = σ 11 0 from (cnt_nI hI.1.2.2.1).symm] at h
    exact h) (fun H h => ⟨⟨h.2⟩, h.1, by omega⟩)
theorem c_LG1 (l : Launch) (E : EV) (A : Nat → Prop) (σ : St) (L : Nat → Nat → Nat) (x : Int32) : Cr l E yJx4a65c_get_915e3 cJx4a65c_get_915e3 2 (some (.object "java/lang/Object")) 2 43 [.ref (L 9 1), .int x] (fun H => Cd E A σ L H ∧ okP σ x) (some (.ref (L 21 x.toNatClampNeg))) :=
  Cr.pre (P := fun (y : PLift (okP σ x)) H => Cd E A σ L H ∧ 1 < 6 + nn σ 11 ∧ x.toNatClampNeg < lc σ 1) (fun y => by
    obtain ⟨hx⟩ := y
    have h := c_Lget l E A σ L 1 x.toNatClampNeg
    rw [← okX_nI hx.1] at h
    exact h) (fun H h => ⟨⟨h.2⟩, h.1, by omega, ok_lt (t := 11) h.2⟩)
theorem c_LS2 (l : Launch) (E : EV) (A : Nat → Prop) (σ : St) (L : Nat → Nat → Nat) : Cr l E yJx4a65c_size_8abf5 cJx4a65c_size_8abf5 1 (some .int) 0 0 [.ref (L 9 2)] (fun H => Cd E A σ L H ∧ InvM σ) (some (.int (σ 23 0))) :=
  Cr.pre (P := fun (x : PLift (InvM σ)) H => Cd E A σ L H ∧ 2 < 6 + nn σ 11) (fun x => by
    obtain ⟨hI⟩ := x
    have h := c_Lsize l E A σ L 2
    rw [show nI (lc σ 2) = σ 23 0 from (cnt_nI hI.1.2.2.2.2.1).symm] at h
    exact h) (fun H h => ⟨⟨h.2⟩, h.1, by omega⟩)
theorem c_LG2 (l : Launch) (E : EV) (A : Nat → Prop) (σ : St) (L : Nat → Nat → Nat) (x : Int32) : Cr l E yJx4a65c_get_915e3 cJx4a65c_get_915e3 2 (some (.object "java/lang/Object")) 2 43 [.ref (L 9 2), .int x] (fun H => Cd E A σ L H ∧ okN σ x) (some (.ref (L 22 x.toNatClampNeg))) :=
  Cr.pre (P := fun (y : PLift (okN σ x)) H => Cd E A σ L H ∧ 2 < 6 + nn σ 11 ∧ x.toNatClampNeg < lc σ 2) (fun y => by
    obtain ⟨hx⟩ := y
    have h := c_Lget l E A σ L 2 x.toNatClampNeg
    rw [← okX_nI hx.1] at h
    exact h) (fun H h => ⟨⟨h.2⟩, h.1, by omega, ok_lt (t := 23) h.2⟩)
theorem c_LS3 (l : Launch) (E : EV) (A : Nat → Prop) (σ : St) (L : Nat → Nat → Nat) : Cr l E yJx4a65c_size_8abf5 cJx4a65c_size_8abf5 1 (some .int) 0 0 [.ref (L 9 3)] (fun H => Cd E A σ L H ∧ InvM σ) (some (.int (σ 26 0))) :=
  Cr.pre (P := fun (x : PLift (InvM σ)) H => Cd E A σ L H ∧ 3 < 6 + nn σ 11) (fun x => by
    obtain ⟨hI⟩ := x
    have h := c_Lsize l E A σ L 3
    rw [show nI (lc σ 3) = σ 26 0 from (cnt_nI hI.1.2.2.2.2.2.1).symm] at h
    exact h) (fun H h => ⟨⟨h.2⟩, h.1, by omega⟩)
theorem c_LG3 (l : Launch) (E : EV) (A : Nat → Prop) (σ : St) (L : Nat → Nat → Nat) (x : Int32) : Cr l E yJx4a65c_get_915e3 cJx4a65c_get_915e3 2 (some (.object "java/lang/Object")) 2 43 [.ref (L 9 3), .int x] (fun H => Cd E A σ L H ∧ okO σ x) (some (.ref (L 23 x.toNatClampNeg))) :=
  Cr.pre (P := fun (y : PLift (okO σ x)) H => Cd E A σ L H ∧ 3 < 6 + nn σ 11 ∧ x.toNatClampNeg < lc σ 3) (fun y => by
    obtain ⟨hx⟩ := y
    have h := c_Lget l E A σ L 3 x.toNatClampNeg
    rw [← okX_nI hx.1] at h
    exact h) (fun H h => ⟨⟨h.2⟩, h.1, by omega, ok_lt (t := 26) h.2⟩)
theorem c_LS4 (l : Launch) (E : EV) (A : Nat → Prop) (σ : St) (L : Nat → Nat → Nat) : Cr l E yJx4a65c_size_8abf5 cJx4a65c_size_8abf5 1 (some .int) 0 0 [.ref (L 9 4)] (fun H => Cd E A σ L H ∧ InvM σ) (some (.int (σ 30 0))) :=
  Cr.pre (P := fun (x : PLift (InvM σ)) H => Cd E A σ L H ∧ 4 < 6 + nn σ 11) (fun x => by
    obtain ⟨hI⟩ := x
    have h := c_Lsize l E A σ L 4
    rw [show nI (lc σ 4) = σ 30 0 from (cnt_nI hI.1.2.2.2.2.2.2.2.1).symm] at h
    exact h) (fun H h => ⟨⟨h.2⟩, h.1, by omega⟩)
theorem c_LG4 (l : Launch) (E : EV) (A : Nat → Prop) (σ : St) (L : Nat → Nat → Nat) (x : Int32) : Cr l E yJx4a65c_get_915e3 cJx4a65c_get_915e3 2 (some (.object "java/lang/Object")) 2 43 [.ref (L 9 4), .int x] (fun H => Cd E A σ L H ∧ okE σ x) (some (.ref (L 24 x.toNatClampNeg))) :=
  Cr.pre (P := fun (y : PLift (okE σ x)) H => Cd E A σ L H ∧ 4 < 6 + nn σ 11 ∧ x.toNatClampNeg < lc σ 4) (fun y => by
    obtain ⟨hx⟩ := y
    have h := c_Lget l E A σ L 4 x.toNatClampNeg
    rw [← okX_nI hx.1] at h
    exact h) (fun H h => ⟨⟨h.2⟩, h.1, by omega, ok_lt (t := 30) h.2⟩)
theorem c_LS5 (l : Launch) (E : EV) (A : Nat → Prop) (σ : St) (L : Nat → Nat → Nat) : Cr l E yJx4a65c_size_8abf5 cJx4a65c_size_8abf5 1 (some .int) 0 0 [.ref (L 9 5)] (fun H => Cd E A σ L H ∧ InvM σ) (some (.int (σ 35 0))) :=
  Cr.pre (P := fun (x : PLift (InvM σ)) H => Cd E A σ L H ∧ 5 < 6 + nn σ 11) (fun x => by
    obtain ⟨hI⟩ := x
    have h := c_Lsize l E A σ L 5
    rw [show nI (lc σ 5) = σ 35 0 from (cnt_nI hI.1.2.2.2.2.2.2.2.2).symm] at h
    exact h) (fun H h => ⟨⟨h.2⟩, h.1, by omega⟩)
theorem c_LG5 (l : Launch) (E : EV) (A : Nat → Prop) (σ : St) (L : Nat → Nat → Nat) (x : Int32) : Cr l E yJx4a65c_get_915e3 cJx4a65c_get_915e3 2 (some (.object "java/lang/Object")) 2 43 [.ref (L 9 5), .int x] (fun H => Cd E A σ L H ∧ okC σ x) (some (.ref (L 25 x.toNatClampNeg))) :=
  Cr.pre (P := fun (y : PLift (okC σ x)) H => Cd E A σ L H ∧ 5 < 6 + nn σ 11 ∧ x.toNatClampNeg < lc σ 5) (fun y => by
    obtain ⟨hx⟩ := y
    have h := c_Lget l E A σ L 5 x.toNatClampNeg
    rw [← okX_nI hx.1] at h
    exact h) (fun H h => ⟨⟨h.2⟩, h.1, by omega, ok_lt (t := 35) h.2⟩)
