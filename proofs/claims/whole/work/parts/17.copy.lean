/-! Arrays.copyOf of references: a new array, the old one's elements in it -/
def elOK (E : EV) (ci n : Nat) (f : Nat → Option Nat) (H : Heap) : Prop := ∀ i, i < n → ∃ (y : Nat) (fs : List Value), f i = some y ∧ ob E y ci fs H
/-- a class whose objects may stand in an array of Object -/
def elC (ci : Nat) : Prop := ∃ q : vw_C, vwCl[ci]? = some q ∧ q.1 ∈ xCs
section NQ
variable {p : Program} {l : Launch} {e : Env} {R : Room} {s : State} {m : MethodId} {args : Array Value} {below : List Frame} {meth : Method} {c : Code} {H : Heap} {locs : List Loc} {cells slots : Nat} {Q : State → Prop} {E : EV}
variable {cc : ByteArray} {pc : Nat} {ls : Array Slot} {rest : List Value} {A : Nat → Prop} {a : Nat} {H0 : Heap}
theorem nw_newq {own : String} {index : Nat} (hx : p.tables.exec = Jvm.exec) (hb : c.code = cc) (hown : s.vm.findClass own = some m.cls) (hu : ∀ w ∈ uw, w.before args s = true) (hE : evK E s) (hl : Cond.classLink own index "java/lang/Object" ∈ uw) (hS : va_S A H0 H locs) {n : Int32} {N : Nat} (hn : ¬ n < 0) (hN : n.toNatClampNeg = N) (hbytes : N * 4 ≤ 536870912) (hcells : cells + 1 ≤ R.cells) (hslots : slots + N ≤ R.slots) (hdg : decode cc pc = .ok (.anewarray index, 3))
    (kk : ∀ (H1 : Heap), qa E H.size N (fun _ => none) H1 → H1.size = H.size + 1 → (∀ q : Nat, q < H.size → H1[q]? = H[q]?) → va_S A H0 H1 locs → W p l e R s m args below meth c H1 locs (cells + 1) (slots + N) Q (F0 m (pc + 3) ls (.ref H.size :: rest))) : W p l e R s m args below meth c H locs cells slots Q (F0 m pc ls (.int n :: rest)) := by
  subst hN
  refine W.anew hx hb hown (hu _ hl) (va_AO.use hE.2.2.2.2.1) rfl hdg rfl hn hbytes hcells hslots fun cA kA comp f1 f2 f3 f4 => ?_
  obtain ⟨kA', comp', r1, r2, r3, r4⟩ := (hE.1.2 3 (E.2 3, .object "java/lang/Object") rfl).2
  have hcA : cA = E.2 3 := Option.some.inj (f1.symm.trans r4)
  subst hcA
  generalize hH1 : H.push ({ cls := E.2 3, slots := Array.replicate n.toNatClampNeg .null, vm := .none } : Cell) = H1
  have z1 : H1.size = H.size + 1 := by rw [← hH1, Array.size_push]
  have e1 : H1[H.size]? = some (arrV (E.2 3) n.toNatClampNeg (fun _ => .null)) := by rw [← hH1, Array.getElem?_push_size, ← arrV_new]
  have o1 : ∀ q : Nat, q < H.size → H1[q]? = H[q]? := fun q hq => by rw [← hH1, Array.getElem?_push, if_neg (Nat.ne_of_lt hq)]
  exact kk H1 (by show H1[H.size]? = some (vp_cell _ _); rw [vp_cell_q]; exact e1) z1 o1 ⟨Nat.le_trans hS.1 (by omega), fun x g1 g2 => (o1 x (Nat.lt_of_lt_of_le g1 hS.1)).trans (hS.2.1 x g1 g2), hS.2.2⟩
theorem wr_qast {ci n v : Nat} {f : Nat → Option Nat} {fs : List Value} {i : Int32} (hx : p.tables.exec = Jvm.exec) (hb : c.code = cc) (hE : evK E s) (hS : va_S A H0 H locs) (hA : A a) (ha : qa E a n f H) (hc : elC ci) (hv : ob E v ci fs H) (hin : vp_in i n) (hdg : decode cc pc = .ok (.aastore, 1))
    (kk : ∀ (H1 : Heap) (locs1 : List Loc), qa E a n (va_up f i.toNatClampNeg (some v)) H1 → H1.size = H.size → (∀ q : Nat, q ≠ a → H1[q]? = H[q]?) → va_S A H0 H1 locs1 → W p l e R s m args below meth c H1 locs1 cells slots Q (F0 m (pc + 1) ls rest)) : W p l e R s m args below meth c H locs cells slots Q (F0 m pc ls (.ref v :: .int i :: .ref a :: rest)) := by
  obtain ⟨q, hq, hC⟩ := hc
  have hlt : i.toNatClampNeg < n := Nat.not_le.mp fun q => hin (Or.inr q)
  have h0 : ¬ i < 0 := fun q => hin (Or.inl q)
  obtain ⟨cellV, g1, g3, g2⟩ := recvAt hE hq hv
  obtain ⟨kA, comp, k1, k2, k3, -⟩ := (hE.1.2 3 (E.2 3, .object "java/lang/Object") rfl).2
  obtain ⟨kE, hkE, -⟩ := Vm.findClass_spec k3
  obtain ⟨kC, hkC, -⟩ := Vm.findClass_spec g2
  refine W.aast hx hb ha (fun q h => by cases h) (fun h => by cases h) k1 k2 rfl hkE ⟨h0, by show _ < (arrV _ _ _).slots.size; rw [arrV_size]; exact hlt⟩ g1 (fun q h => by rw [h] at g3; cases g3) hkC (vb_asgC (hE.2.1 _ hC) _ _ k3 g2) rfl rfl hdg fun H1 e z oq => ?_
  refine kk H1 _ ?_ z oq (hS.put z oq hA)
  show H1[a]? = some (vp_cell _ _)
  rw [e]
  rw [vp_cell_q, vp_cell_q, arrV_store]
  congr 2
  funext q
  by_cases hq : q = i.toNatClampNeg
  · subst hq
    simp [updV, va_up, va_rf]
  · simp [updV, va_up, hq]
end NQ
set_option maxHeartbeats 4000000 in
set_option maxRecDepth 20000 in
theorem c_copy3 (l : Launch) (E : EV) (A : Nat → Prop) (H0 : Heap) (a0 n k ci : Nat) (f : Nat → Option Nat) : Ct l E yJ7_copyOf_6403c cJ7_copyOf_6403c 4 (some (.array (.object "java/lang/Object"))) 1 30 1 k A [.ref a0, .int (nI k), .ref (E.2 10)] (fun H => H = H0 ∧ qa E a0 n f H ∧ n ≤ k ∧ k < 100000 ∧ elC ci ∧ elOK E ci n f H ∧ A a0) (fun v H => v = some (.ref H0.size) ∧ qa E H0.size k (va_cpy f (fun _ => none) 0 0 n) H ∧ ∀ q : Nat, q < H0.size → H[q]? = H0[q]?) := by
  refine Ct.of (by decide +kernel) (Nat.le_of_ble_eq_true rfl) (fun pg ev s mi bel mth cd hx hb hr hml hown hu hlocks hnm hE hP hA hZ ls hl => ?_)
  have hl : lv_has ls 4 [(0, .ref a0), (1, .int (nI k)), (2, .ref (E.2 10))] := hl
  obtain ⟨hH, hQ, hnk, hk, hc, hel, hAa⟩ := hP
  subst hH
  have hS : va_S A s.heap s.heap [] := va_S.rf
  refine lv_aload_n hx hb dJ7_copyOf_6403c_0 rfl (lv_at hl 2 rfl) ?_
  refine va_ldcM hx hb hown (hu _ u247) hE.2.2.2.2.2 dJ7_copyOf_6403c_1 ?_
  refine lv_acmp_ne (rx := some (E.2 10)) (ry := some (E.2 10)) (tgt := 13) hx hb dJ7_copyOf_6403c_3 (by decide) (fun z => absurd rfl z) (fun _ => ?_)
  refine lv_iload_n hx hb dJ7_copyOf_6403c_6 rfl (lv_at hl 1 rfl) ?_
  refine nw_newq hx hb hown hu hE u249 hS (nI_pos (by omega)) (nI_clamp (by omega)) (by omega) (by show 0 + 1 ≤ 1; omega) (by show 0 + k ≤ k; omega) dJ7_copyOf_6403c_7 (fun H1 hq1 hz1 ho1 hS => ?_)
  refine lv_goto (tgt := 24) hx hb dJ7_copyOf_6403c_10 (by decide) ?_
  refine lv_astore_n (lv' := [(3, .ref s.heap.size), (0, .ref a0), (1, .int (nI k)), (2, .ref (E.2 10))]) hx hb dJ7_copyOf_6403c_24 rfl hl (by decide) rfl (fun ls hl => ?_)
  refine lv_aload_n hx hb dJ7_copyOf_6403c_25 rfl (lv_at hl 1 rfl) ?_
  refine lv_iconst (v := 0) hx hb dJ7_copyOf_6403c_26 (by decide) ?_
  refine lv_aload_n hx hb dJ7_copyOf_6403c_27 rfl (lv_at hl 0 rfl) ?_
  refine lv_iconst (v := 0) hx hb dJ7_copyOf_6403c_28 (by decide) ?_
  refine lv_aload_n hx hb dJ7_copyOf_6403c_29 rfl (lv_at hl 1 rfl) ?_
  have hlt : a0 < s.heap.size := va_at.lt hQ
  have hQ1 : qa E a0 n f H1 := hQ.kept (ho1 _ hlt)
  refine rd_lenq hx hb hE hQ1 dJ7_copyOf_6403c_30 ?_
  refine lv_iload_n hx hb dJ7_copyOf_6403c_31 rfl (lv_at hl 2 rfl) ?_
  refine va_mmin hx hb (by rw [hml]; exact hl.1.symm) hown (hu _ u250) (hu _ u251) (hu _ u11) (hu _ u252) (Nat.le_of_ble_eq_true rfl) (Nat.le_of_ble_eq_true rfl) (by show 0 + 1 ≤ 1; omega) (by show 0 + k ≤ k; omega) dJ7_copyOf_6403c_32 ?_
  rw [if_neg (nI_nlt (a := k) (b := n) hnk (by omega))]
  obtain ⟨qc, hqc, hCx⟩ := hc
  have e0 : (0 : Int32).toNatClampNeg = 0 := rfl
  have en : (nI n).toNatClampNeg = n := nI_clamp (by omega)
  have hne : a0 ≠ s.heap.size := Nat.ne_of_lt hlt
  have hP2 : va_P E.1 vwCl [(a0, .inl (E.2 3, n, .inr (.inr (.inr (.inr f))))), (s.heap.size, .inl (E.2 3, k, .inr (.inr (.inr (.inr (fun _ => none))))))] H1 := by
    intro j x hj
    match j, hj with
    | 0, hj => cases hj; exact hQ1
    | 1, hj => cases hj; exact hq1
    | j + 2, hj => simp at hj
  have hD2 : va_D (fun q => q = a0 ∨ q = s.heap.size) [(a0, .inl (E.2 3, n, .inr (.inr (.inr (.inr f))))), (s.heap.size, .inl (E.2 3, k, .inr (.inr (.inr (.inr (fun _ => none))))))] := by
    refine ⟨fun i j x y hi hj hxy => ?_, fun j x hj => ?_⟩
    · match i, j, hi, hj with
      | 0, 0, _, _ => rfl
      | 1, 1, _, _ => rfl
      | 0, 1, hi, hj => cases hi; cases hj; exact absurd hxy hne
      | 1, 0, hi, hj => cases hi; cases hj; exact absurd hxy.symm hne
      | i + 2, _, hi, _ => simp at hi
      | 0, j + 2, _, hj => simp at hj
      | 1, j + 2, _, hj => simp at hj
    · match j, hj with
      | 0, hj => cases hj; exact Or.inl rfl
      | 1, hj => cases hj; exact Or.inr rfl
      | j + 2, hj => simp at hj
  have hS2 : va_S (fun q => q = a0 ∨ q = s.heap.size) H1 H1 [] := va_S.rf
  refine va_copyq (C := qc.1) hx hb (by rw [hml]; exact hl.1.symm) hown (hu _ u253) (hu _ u255) (hu _ u254) (hu _ u13) hE.1 hP2 hD2 hS2 0 1 3 3 rfl rfl rfl rfl (by decide) (by decide) (nI_pos (by omega)) (by rw [e0, en]; omega) (by rw [e0, en]; omega) (fun i hi y hy => ?_) (fun comp c0 g1 g2 => vb_asgC (hE.2.1 _ hCx) comp c0 g1 g2) (Nat.le_of_ble_eq_true rfl) (Nat.le_of_ble_eq_true rfl) dJ7_copyOf_6403c_35 (fun H2 locs2 hP3 hD3 hS3 => ?_)
  · rw [en] at hi
    rw [e0, Nat.zero_add] at hy
    obtain ⟨y', fs, g1, g2⟩ := hel i hi
    have ey : y = y' := Option.some.inj (hy.symm.trans g1)
    subst ey
    exact recvAt hE hqc (g2.kept (ho1 _ (va_at.lt g2)))
  · refine lv_aload_n hx hb dJ7_copyOf_6403c_38 rfl (lv_at hl 0 rfl) ?_
    have hq2 : qa E s.heap.size k (va_cpy f (fun _ => none) 0 0 n) H2 := by
      have := hP3 1 _ rfl
      rw [e0, en] at this
      exact this
    have ha2 : H2[a0]? = H1[a0]? := by
      have := hP3 0 _ rfl
      exact this.trans hQ1.symm
    have ho2 : ∀ q : Nat, q < s.heap.size → H2[q]? = s.heap[q]? := by
      intro q hq
      by_cases e : q = a0
      · rw [e, ha2, ho1 _ hlt]
      · rw [hS3.2.1 q (by omega) (fun z => z.elim e (fun z => by omega)), ho1 q hq]
    have hSz : va_S A s.heap H2 locs2 := ⟨Nat.le_of_lt (va_at.lt hq2), fun q hq _ => ho2 q hq, fun x hx9 => (hS3.2.2 x hx9).elim (fun z => by rw [z]; exact hAa) (fun z => by rw [z]; exact hA _ (Nat.le_refl _))⟩
    exact ct_ra hx hb hr (Or.inr ⟨_, rfl⟩) (Or.inr ⟨_, rfl⟩) hlocks hSz ⟨rfl, hq2, ho2⟩ (by omega) (by omega) dJ7_copyOf_6403c_39
set_option maxHeartbeats 4000000 in
set_option maxRecDepth 20000 in
theorem c_copy2 (l : Launch) (E : EV) (A : Nat → Prop) (H0 : Heap) (a0 n k ci : Nat) (f : Nat → Option Nat) : Ct l E yJ7_copyOf_1904c cJ7_copyOf_1904c 2 (some (.array (.object "java/lang/Object"))) 2 60 1 k A [.ref a0, .int (nI k)] (fun H => H = H0 ∧ qa E a0 n f H ∧ n ≤ k ∧ k < 100000 ∧ elC ci ∧ elOK E ci n f H ∧ A a0) (fun v H => v = some (.ref H0.size) ∧ qa E H0.size k (va_cpy f (fun _ => none) 0 0 n) H ∧ ∀ q : Nat, q < H0.size → H[q]? = H0[q]?) := by
  refine Ct.of (by decide +kernel) (Nat.le_of_ble_eq_true rfl) (fun pg ev s mi bel mth cd hx hb hr hml hown hu hlocks hnm hE hP hA hZ ls hl => ?_)
  have hl : lv_has ls 2 [(0, .ref a0), (1, .int (nI k))] := hl
  have hP0 := hP
  obtain ⟨hH, hQ, hnk, hk, hc, hel, hAa⟩ := hP
  subst hH
  have hS : va_S A s.heap s.heap [] := va_S.rf
  refine lv_aload_n hx hb dJ7_copyOf_1904c_0 rfl (lv_at hl 0 rfl) ?_
  refine lv_iload_n hx hb dJ7_copyOf_1904c_1 rfl (lv_at hl 1 rfl) ?_
  refine lv_aload_n hx hb dJ7_copyOf_1904c_2 rfl (lv_at hl 0 rfl) ?_
  refine va_getC (C := "[Ljava/lang/Object;") hx hb (by rw [hml]; exact hl.1.symm) hown (hu _ u227) (va_Dc.use hE.2.2.2.1) (hu _ u1072) (hu _ u228) (hu _ u243) hE.2.2.2.2.2 ⟨_, hQ, rfl, va_nmO (hE.1.2 3 (E.2 3, .object "java/lang/Object") rfl).2 (by decide +kernel)⟩ (Nat.le_of_ble_eq_true rfl) (Nat.le_of_ble_eq_true rfl) dJ7_copyOf_1904c_3 ?_
  refine ct_S (As := [.ref a0, .int (nI k), .ref (E.2 10)]) (rest := []) hx hb hml hown hu hE hZ hS (fun _ h => h) (fun q h => hA q (Nat.le_trans hS.1 h)) (c_copy3 l E A s.heap a0 n k ci f) kJ7_copyOf_6403c u244 hP0 ⟨Nat.le_of_ble_eq_true rfl, Nat.le_of_ble_eq_true rfl⟩ rfl hl.1 rfl (Nat.le_of_ble_eq_true rfl) ⟨by show 0 + 1 ≤ 1; omega, by show 0 + k ≤ k; omega⟩ dJ7_copyOf_1904c_6 (fun v H1 locs1 hR hS hz hk1 => ?_)
  obtain ⟨rfl, h2, h3⟩ := hR
  exact ct_ra hx hb hr (Or.inr ⟨_, rfl⟩) (Or.inr ⟨_, rfl⟩) hlocks hS ⟨rfl, h2, h3⟩ (by omega) (by omega) dJ7_copyOf_1904c_9
