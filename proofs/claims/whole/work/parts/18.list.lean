/-! ArrayList's own array: the JDK's empty one as long as nothing is in it, else one of the list's own -/
def fl (n : Nat) (el : Nat → Nat) : Nat → Option Nat := fun i => if i < n then some (el i) else none
def arOK (E : EV) (A : Nat → Prop) (ar n cap : Nat) (el : Nat → Nat) (H : Heap) : Prop := (n = 0 ∧ ar = E.2 11 ∧ cap = 0) ∨ (0 < cap ∧ n ≤ cap ∧ qa E ar cap (fl n el) H ∧ A ar)
def ncap (n cap : Nat) : Nat := if cap = 0 then 10 else if n = cap then cap + (if 1 < cap / 2 then cap / 2 else 1) else cap
theorem qa_congr {E : EV} {a n : Nat} {f g : Nat → Option Nat} {H : Heap} (h : qa E a n f H) (e : ∀ i, i < n → f i = g i) : qa E a n g H := by
  have h1 : H[a]? = some (vp_cell (E.2 3) (n, .inr (.inr (.inr (.inr f))))) := h
  show H[a]? = some (vp_cell (E.2 3) (n, .inr (.inr (.inr (.inr g)))))
  rw [h1, vp_cell_q, vp_cell_q]
  unfold arrV
  congr 2
  congr 1
  funext j
  show va_rf (f j.val) = va_rf (g j.val)
  rw [e j.val j.isLt]
theorem fl_up {n v : Nat} {el : Nat → Nat} : ∀ i : Nat, va_up (fl n el) n (some v) i = fl (n + 1) (va_up el n v) i := by
  intro i
  unfold va_up fl
  by_cases e : i = n
  · subst e; simp
  · by_cases h : i < n
    · simp [e, h, Nat.lt_succ_of_lt h]
    · simp [e, h, show ¬ i < n + 1 by omega]
theorem fl_cpy {n : Nat} {el : Nat → Nat} : ∀ i : Nat, va_cpy (fl n el) (fun _ => none) 0 0 n i = fl n el i := by
  intro i
  unfold va_cpy fl
  by_cases h : i < n
  · simp [h]
  · simp [h]
theorem fl_up2 {n v : Nat} {el : Nat → Nat} : ∀ i : Nat, va_up (va_cpy (fl n el) (fun _ => none) 0 0 n) n (some v) i = fl (n + 1) (va_up el n v) i := by
  intro i
  rw [← fl_up]
  unfold va_up
  by_cases e : i = n
  · rw [if_pos e, if_pos e]
  · rw [if_neg e, if_neg e]; exact fl_cpy i
theorem el_fl {E : EV} {ci n : Nat} {el : Nat → Nat} {H : Heap} (h : ∀ i, i < n → ∃ fs : List Value, ob E (el i) ci fs H) : elOK E ci n (fl n el) H := fun i hi => by
  obtain ⟨fs, h1⟩ := h i hi
  exact ⟨el i, fs, if_pos hi, h1⟩
section LEN0
variable {p : Program} {l : Launch} {e : Env} {R : Room} {s : State} {m : MethodId} {args : Array Value} {below : List Frame} {meth : Method} {c : Code} {H : Heap} {locs : List Loc} {cells slots : Nat} {Q : State → Prop} {E : EV}
variable {cc : ByteArray} {pc : Nat} {ls : Array Slot} {rest : List Value} {A : Nat → Prop}
theorem rd_len0 (hx : p.tables.exec = Jvm.exec) (hb : c.code = cc) (hZ : evZ E A s s.heap) (hS : va_S A s.heap H locs) (hdg : decode cc pc = .ok (.arraylength, 1))
    (kk : W p l e R s m args below meth c H locs cells slots Q (F0 m (pc + 1) ls (.int (nI 0) :: rest))) : W p l e R s m args below meth c H locs cells slots Q (F0 m pc ls (.ref (E.2 11) :: rest)) := by
  obtain ⟨-, cell, h2, h3, h4, h5⟩ := hZ
  exact W.alen (n := nI 0) hx hb (by rw [hS.2.1 _ (Array.getElem?_eq_some_iff.mp h2).1 h5]; exact h2) h3 (by rw [h4]; rfl) rfl rfl hdg kk
end LEN0
set_option maxHeartbeats 4000000 in
set_option maxRecDepth 20000 in
/-- grow(1) of a list with nothing in it: ten places -/
theorem c_grow0 (l : Launch) (E : EV) (A : Nat → Prop) (H0 : Heap) (lo_ : Nat) (md : Int32) : Ct l E yJx4a65c_grow_92f84 cJx4a65c_grow_92f84 4 (some (.array (.object "java/lang/Object"))) 1 30 1 10 A [.ref lo_, .int (nI 1)] (fun H => H = H0 ∧ ob E lo_ 0 [.int md, .ref (E.2 11), .int 0] H ∧ A lo_) (fun v H => v = some (.ref H0.size) ∧ ob E lo_ 0 [.int md, .ref H0.size, .int 0] H ∧ qa E H0.size 10 (fun _ => none) H ∧ ∀ q : Nat, q < H0.size → q ≠ lo_ → H[q]? = H0[q]?) := by
  refine Ct.of (by decide +kernel) (Nat.le_of_ble_eq_true rfl) (fun pg ev s mi bel mth cd hx hb hr hml hown hu hlocks hnm hE hP hA hZ ls hl => ?_)
  have hl : lv_has ls 4 [(0, .ref lo_), (1, .int (nI 1))] := hl
  obtain ⟨hH, hL, hAl⟩ := hP
  subst hH
  have hS : va_S A s.heap s.heap [] := va_S.rf
  refine lv_aload_n hx hb dJx4a65c_grow_92f84_0 rfl (lv_at hl 0 rfl) ?_
  refine rd_get (k := 1) (v := .ref (E.2 11)) hx hb hown hu hE ok0 hL (by decide) u63 (fun _ h => h) rfl dJx4a65c_grow_92f84_1 ?_
  refine rd_len0 hx hb hZ hS dJx4a65c_grow_92f84_4 ?_
  refine lv_istore_n (lv' := [(2, .int (nI 0)), (0, .ref lo_), (1, .int (nI 1))]) hx hb dJx4a65c_grow_92f84_5 rfl hl (by decide) rfl (fun ls hl => ?_)
  refine lv_iload_n hx hb dJx4a65c_grow_92f84_6 rfl (lv_at hl 0 rfl) ?_
  refine lv_if_gt (tgt := 20) hx hb dJx4a65c_grow_92f84_7 (by decide) (fun c1 => absurd c1 (by decide)) (fun _ => ?_)
  refine lv_aload_n hx hb dJx4a65c_grow_92f84_10 rfl (lv_at hl 1 rfl) ?_
  refine rd_get (k := 1) (v := .ref (E.2 11)) hx hb hown hu hE ok0 hL (by decide) u63 (fun _ h => h) rfl dJx4a65c_grow_92f84_11 ?_
  refine va_gets hx hb hZ.1 hS hown (hu _ u61) (fun _ h => h) dJx4a65c_grow_92f84_14 ?_
  refine lv_acmp_eq (rx := some (E.2 11)) (ry := some (E.2 11)) (tgt := 45) hx hb dJx4a65c_grow_92f84_17 (by decide) (fun _ => ?_) (fun z => absurd rfl z)
  refine lv_aload_n hx hb dJx4a65c_grow_92f84_45 rfl (lv_at hl 1 rfl) ?_
  refine lv_bipush (v := 10) hx hb dJx4a65c_grow_92f84_46 (by decide) ?_
  refine lv_iload_n hx hb dJx4a65c_grow_92f84_48 rfl (lv_at hl 2 rfl) ?_
  refine va_mmax hx hb (by rw [hml]; exact hl.1.symm) hown (hu _ u256) (hu _ u218) (hu _ u11) (hu _ u219) (Nat.le_of_ble_eq_true rfl) (Nat.le_of_ble_eq_true rfl) (Nat.le_of_ble_eq_true rfl) (Nat.le_of_ble_eq_true rfl) dJx4a65c_grow_92f84_49 ?_
  rw [show (if (10 : Int32) < nI 1 then nI 1 else 10) = 10 from by decide]
  refine nw_newq (N := 10) hx hb hown hu hE u257 hS (by decide) (by decide) (by omega) (Nat.le_of_ble_eq_true rfl) (Nat.le_of_ble_eq_true rfl) dJx4a65c_grow_92f84_52 (fun H1 hq1 hz1 ho1 hS => ?_)
  refine lv_dup_x1 hx hb dJx4a65c_grow_92f84_55 rfl rfl ?_
  have hlt : lo_ < s.heap.size := va_at.lt hL
  have hL1 : ob E lo_ 0 [.int md, .ref (E.2 11), .int 0] H1 := hL.kept (ho1 _ hlt)
  refine wr_put (k := 1) hx hb hown hu hE ok0 hS hAl hL1 (by decide) u63 (Or.inl rfl) rfl rfl rfl (Nat.le_of_ble_eq_true rfl) dJx4a65c_grow_92f84_56 (fun H2 locs2 hL2 hz2 ho2 hS => ?_)
  refine ct_ra hx hb hr (Or.inr ⟨_, rfl⟩) (Or.inr ⟨_, rfl⟩) hlocks hS ⟨rfl, hL2, hq1.kept (ho2 _ (fun z => by have : s.heap.size = lo_ := z; omega)), fun q hq hne => by rw [ho2 q hne, ho1 q hq]⟩ (Nat.le_of_ble_eq_true rfl) (Nat.le_of_ble_eq_true rfl) dJx4a65c_grow_92f84_59
set_option maxHeartbeats 4000000 in
set_option maxRecDepth 20000 in
/-- grow(n + 1) of a full list -/
theorem c_grow1 (l : Launch) (E : EV) (A : Nat → Prop) (H0 : Heap) (lo_ ar n ci : Nat) (f : Nat → Option Nat) (md : Int32) : Ct l E yJx4a65c_grow_92f84 cJx4a65c_grow_92f84 4 (some (.array (.object "java/lang/Object"))) 3 90 1 (n + (if 1 < n / 2 then n / 2 else 1)) A [.ref lo_, .int (nI (n + 1))] (fun H => H = H0 ∧ ob E lo_ 0 [.int md, .ref ar, .int (nI n)] H ∧ A lo_ ∧ qa E ar n f H ∧ A ar ∧ 0 < n ∧ n < 10000 ∧ elC ci ∧ elOK E ci n f H) (fun v H => v = some (.ref H0.size) ∧ ob E lo_ 0 [.int md, .ref H0.size, .int (nI n)] H ∧ qa E H0.size (n + (if 1 < n / 2 then n / 2 else 1)) (va_cpy f (fun _ => none) 0 0 n) H ∧ ∀ q : Nat, q < H0.size → q ≠ lo_ → H[q]? = H0[q]?) := by
  refine Ct.of (by decide +kernel) (Nat.le_of_ble_eq_true rfl) (fun pg ev s mi bel mth cd hx hb hr hml hown hu hlocks hnm hE hP hA hZ ls hl => ?_)
  have hl : lv_has ls 4 [(0, .ref lo_), (1, .int (nI (n + 1)))] := hl
  obtain ⟨hH, hL, hAl, hQ, hAr, hn0, hn1, hc, hel⟩ := hP
  subst hH
  have hS : va_S A s.heap s.heap [] := va_S.rf
  have hz : (if 1 < n / 2 then n / 2 else 1) < 10000 := by split <;> omega
  refine lv_aload_n hx hb dJx4a65c_grow_92f84_0 rfl (lv_at hl 0 rfl) ?_
  refine rd_get (k := 1) (v := .ref ar) hx hb hown hu hE ok0 hL (by decide) u63 (fun _ h => h) rfl dJx4a65c_grow_92f84_1 ?_
  refine rd_lenq hx hb hE hQ dJx4a65c_grow_92f84_4 ?_
  refine lv_istore_n (lv' := [(2, .int (nI n)), (0, .ref lo_), (1, .int (nI (n + 1)))]) hx hb dJx4a65c_grow_92f84_5 rfl hl (by decide) rfl (fun ls hl => ?_)
  refine lv_iload_n hx hb dJx4a65c_grow_92f84_6 rfl (lv_at hl 0 rfl) ?_
  refine lv_if_gt (tgt := 20) hx hb dJx4a65c_grow_92f84_7 (by decide) (fun _ => ?_) (fun z => absurd (show nI 0 < nI n from nI_lt hn0 (by omega)) z)
  refine lv_iload_n hx hb dJx4a65c_grow_92f84_20 rfl (lv_at hl 0 rfl) ?_
  refine lv_iload_n hx hb dJx4a65c_grow_92f84_21 rfl (lv_at hl 2 rfl) ?_
  refine lv_iload_n hx hb dJx4a65c_grow_92f84_22 rfl (lv_at hl 0 rfl) ?_
  refine lv_isub hx hb dJx4a65c_grow_92f84_23 ?_
  rw [show nI (n + 1) - nI n = nI 1 from by rw [pk_sub (by omega)]; congr 1; omega]
  refine lv_iload_n hx hb dJx4a65c_grow_92f84_24 rfl (lv_at hl 0 rfl) ?_
  refine lv_iconst (v := 1) hx hb dJx4a65c_grow_92f84_25 (by decide) ?_
  refine lv_ishr hx hb dJx4a65c_grow_92f84_26 ?_
  rw [show nI n >>> ((1 : Int32) &&& 31) = nI (n / 2) from by have k := pk_shrN (n := n) (by omega) ((1 : Int32) &&& 31) 1 (by decide); rw [Nat.pow_one] at k; exact k]
  refine cr_S (As := [.int (nI n), .int (nI 1), .int (nI (n / 2))]) (rest := []) hx hb hml hown hu hE (c_newLen l E n 1 (n / 2)) kJ8_newLength_cabcc u214 ⟨by omega, by omega, by omega, by omega⟩ ⟨Nat.le_of_ble_eq_true rfl, Nat.le_of_ble_eq_true rfl⟩ rfl hl.1 rfl (Nat.le_of_ble_eq_true rfl) ⟨by show 0 ≤ 1; omega, Nat.zero_le _⟩ dJx4a65c_grow_92f84_27 ?_
  generalize hkz : n + (if 1 < n / 2 then n / 2 else 1) = kz
  have hk1 : n ≤ kz := by omega
  have hk2 : kz < 100000 := by omega
  refine lv_istore_n (lv' := [(3, .int (nI kz)), (2, .int (nI n)), (0, .ref lo_), (1, .int (nI (n + 1)))]) hx hb dJx4a65c_grow_92f84_30 rfl hl (by decide) rfl (fun ls hl => ?_)
  refine lv_aload_n hx hb dJx4a65c_grow_92f84_31 rfl (lv_at hl 2 rfl) ?_
  refine lv_aload_n hx hb dJx4a65c_grow_92f84_32 rfl (lv_at hl 2 rfl) ?_
  refine rd_get (k := 1) (v := .ref ar) hx hb hown hu hE ok0 hL (by decide) u63 (fun _ h => h) rfl dJx4a65c_grow_92f84_33 ?_
  refine lv_iload_n hx hb dJx4a65c_grow_92f84_36 rfl (lv_at hl 0 rfl) ?_
  refine ct_S (As := [.ref ar, .int (nI kz)]) (rest := [.ref lo_]) hx hb hml hown hu hE hZ hS (fun _ h => h) (fun q h => hA q (Nat.le_trans hS.1 h)) (c_copy2 l E A s.heap ar n kz ci f) kJ7_copyOf_1904c u224 ⟨rfl, hQ, hk1, hk2, hc, hel, hAr⟩ ⟨Nat.le_of_ble_eq_true rfl, Nat.le_of_ble_eq_true rfl⟩ rfl hl.1 rfl (Nat.le_of_ble_eq_true rfl) ⟨by show 0 + 1 ≤ 1; omega, by show 0 + kz ≤ kz; omega⟩ dJx4a65c_grow_92f84_37 (fun v H1 locs1 hR hS hz9 hk9 => ?_)
  obtain ⟨rfl, hq1, ho1⟩ := hR
  refine lv_dup_x1 hx hb dJx4a65c_grow_92f84_40 rfl rfl ?_
  have hlt : lo_ < s.heap.size := va_at.lt hL
  have hL1 : ob E lo_ 0 [.int md, .ref ar, .int (nI n)] H1 := hL.kept (ho1 _ hlt)
  refine wr_put (k := 1) hx hb hown hu hE ok0 hS hAl hL1 (by decide) u63 (Or.inl rfl) rfl rfl rfl (Nat.le_of_ble_eq_true rfl) dJx4a65c_grow_92f84_41 (fun H2 locs2 hL2 hz2 ho2 hS => ?_)
  refine ct_ra hx hb hr (Or.inr ⟨_, rfl⟩) (Or.inr ⟨_, rfl⟩) hlocks hS ⟨rfl, hL2, hq1.kept (ho2 _ (fun z => by have : s.heap.size = lo_ := z; omega)), fun q hq hne => by rw [ho2 q hne, ho1 q hq]⟩ (by omega) (by omega) dJx4a65c_grow_92f84_44
set_option maxHeartbeats 4000000 in
set_option maxRecDepth 20000 in
theorem c_gr0 (l : Launch) (E : EV) (A : Nat → Prop) (H0 : Heap) (lo_ : Nat) (md : Int32) : Ct l E yJx4a65c_grow_d5877 cJx4a65c_grow_d5877 1 (some (.array (.object "java/lang/Object"))) 2 60 1 10 A [.ref lo_] (fun H => H = H0 ∧ ob E lo_ 0 [.int md, .ref (E.2 11), .int 0] H ∧ A lo_) (fun v H => v = some (.ref H0.size) ∧ ob E lo_ 0 [.int md, .ref H0.size, .int 0] H ∧ qa E H0.size 10 (fun _ => none) H ∧ ∀ q : Nat, q < H0.size → q ≠ lo_ → H[q]? = H0[q]?) := by
  refine Ct.of (by decide +kernel) (Nat.le_of_ble_eq_true rfl) (fun pg ev s mi bel mth cd hx hb hr hml hown hu hlocks hnm hE hP hA hZ ls hl => ?_)
  have hl : lv_has ls 1 [(0, .ref lo_)] := hl
  have hL := hP.2.1
  have hS : va_S A s.heap s.heap [] := va_S.rf
  refine lv_aload_n hx hb dJx4a65c_grow_d5877_0 rfl (lv_at hl 0 rfl) ?_
  refine lv_aload_n hx hb dJx4a65c_grow_d5877_1 rfl (lv_at hl 0 rfl) ?_
  refine rd_get (k := 2) (v := .int 0) hx hb hown hu hE ok0 hL (by decide) u64 (fun _ h => h) rfl dJx4a65c_grow_d5877_2 ?_
  refine lv_iconst (v := 1) hx hb dJx4a65c_grow_d5877_5 (by decide) ?_
  refine lv_iadd hx hb dJx4a65c_grow_d5877_6 ?_
  rw [show (0 : Int32) + 1 = nI 1 from rfl]
  refine ct_V (As := [.int (nI 1)]) (rest := []) hx hb hml hown hu hE hZ hS (fun _ h => h) (fun q h => hA q (Nat.le_trans hS.1 h)) (c_grow0 l E A H0 lo_ md) kJx4a65c_grow_92f84 u210 hL rfl rfl hP ⟨Nat.le_of_ble_eq_true rfl, Nat.le_of_ble_eq_true rfl⟩ rfl hl.1 rfl (Nat.le_of_ble_eq_true rfl) ⟨Nat.le_of_ble_eq_true rfl, Nat.le_of_ble_eq_true rfl⟩ dJx4a65c_grow_d5877_7 (fun v H1 locs1 hR hS hz hk => ?_)
  obtain ⟨rfl, h1, h2, h3⟩ := hR
  exact ct_ra hx hb hr (Or.inr ⟨_, rfl⟩) (Or.inr ⟨_, rfl⟩) hlocks hS ⟨rfl, h1, h2, h3⟩ (Nat.le_of_ble_eq_true rfl) (Nat.le_of_ble_eq_true rfl) dJx4a65c_grow_d5877_10
set_option maxHeartbeats 4000000 in
set_option maxRecDepth 20000 in
theorem c_gr1 (l : Launch) (E : EV) (A : Nat → Prop) (H0 : Heap) (lo_ ar n ci : Nat) (f : Nat → Option Nat) (md : Int32) : Ct l E yJx4a65c_grow_d5877 cJx4a65c_grow_d5877 1 (some (.array (.object "java/lang/Object"))) 4 120 1 (n + (if 1 < n / 2 then n / 2 else 1)) A [.ref lo_] (fun H => H = H0 ∧ ob E lo_ 0 [.int md, .ref ar, .int (nI n)] H ∧ A lo_ ∧ qa E ar n f H ∧ A ar ∧ 0 < n ∧ n < 10000 ∧ elC ci ∧ elOK E ci n f H) (fun v H => v = some (.ref H0.size) ∧ ob E lo_ 0 [.int md, .ref H0.size, .int (nI n)] H ∧ qa E H0.size (n + (if 1 < n / 2 then n / 2 else 1)) (va_cpy f (fun _ => none) 0 0 n) H ∧ ∀ q : Nat, q < H0.size → q ≠ lo_ → H[q]? = H0[q]?) := by
  refine Ct.of (by decide +kernel) (Nat.le_of_ble_eq_true rfl) (fun pg ev s mi bel mth cd hx hb hr hml hown hu hlocks hnm hE hP hA hZ ls hl => ?_)
  have hl : lv_has ls 1 [(0, .ref lo_)] := hl
  have hL := hP.2.1
  have hS : va_S A s.heap s.heap [] := va_S.rf
  refine lv_aload_n hx hb dJx4a65c_grow_d5877_0 rfl (lv_at hl 0 rfl) ?_
  refine lv_aload_n hx hb dJx4a65c_grow_d5877_1 rfl (lv_at hl 0 rfl) ?_
  refine rd_get (k := 2) (v := .int (nI n)) hx hb hown hu hE ok0 hL (by decide) u64 (fun _ h => h) rfl dJx4a65c_grow_d5877_2 ?_
  refine lv_iconst (v := 1) hx hb dJx4a65c_grow_d5877_5 (by decide) ?_
  refine lv_iadd hx hb dJx4a65c_grow_d5877_6 ?_
  rw [nI_1]
  refine ct_V (As := [.int (nI (n + 1))]) (rest := []) hx hb hml hown hu hE hZ hS (fun _ h => h) (fun q h => hA q (Nat.le_trans hS.1 h)) (c_grow1 l E A H0 lo_ ar n ci f md) kJx4a65c_grow_92f84 u210 hL rfl rfl hP ⟨Nat.le_of_ble_eq_true rfl, Nat.le_of_ble_eq_true rfl⟩ rfl hl.1 rfl (Nat.le_of_ble_eq_true rfl) ⟨by show 0 + 1 ≤ 1; omega, Nat.le_of_eq (Nat.zero_add _)⟩ dJx4a65c_grow_d5877_7 (fun v H1 locs1 hR hS hz hk => ?_)
  obtain ⟨rfl, h1, h2, h3⟩ := hR
  exact ct_ra hx hb hr (Or.inr ⟨_, rfl⟩) (Or.inr ⟨_, rfl⟩) hlocks hS ⟨rfl, h1, h2, h3⟩ (by omega) (by omega) dJx4a65c_grow_d5877_10
/-- what add leaves behind -/
def addR (E : EV) (A : Nat → Prop) (H0 : Heap) (lo_ ar n cap v : Nat) (el : Nat → Nat) (md : Int32) (H : Heap) : Prop := ∃ ar' : Nat, ob E lo_ 0 [.int md, .ref ar', .int (nI (n + 1))] H ∧ qa E ar' (ncap n cap) (fl (n + 1) (va_up el n v)) H ∧ A ar' ∧ n + 1 ≤ ncap n cap ∧ ((0 < cap ∧ ar' = ar) ∨ H0.size ≤ ar') ∧ ∀ q : Nat, q < H0.size → q ≠ lo_ → (cap = 0 ∨ q ≠ ar) → H[q]? = H0[q]?
set_option maxHeartbeats 4000000 in
set_option maxRecDepth 20000 in
theorem c_addp (l : Launch) (E : EV) (A : Nat → Prop) (H0 : Heap) (lo_ ar n cap ci v : Nat) (el : Nat → Nat) (fs : List Value) (md : Int32) : Ct l E yJx4a65c_add_72be8 cJx4a65c_add_72be8 4 none 5 140 1 400 A [.ref lo_, .ref v, .ref ar, .int (nI n)] (fun H => H = H0 ∧ ob E lo_ 0 [.int md, .ref ar, .int (nI n)] H ∧ A lo_ ∧ arOK E A ar n cap el H ∧ cap ≤ 250 ∧ elC ci ∧ (∀ i, i < n → ∃ fs : List Value, ob E (el i) ci fs H) ∧ ob E v ci fs H ∧ lo_ ≠ v ∧ lo_ ≠ ar ∧ (0 < cap → v ≠ ar)) (fun r H => r = none ∧ addR E A H0 lo_ ar n cap v el md H) := by
  refine Ct.of (by decide +kernel) (Nat.le_of_ble_eq_true rfl) (fun pg ev s mi bel mth cd hx hb hr hml hown hu hlocks hnm hE hP hA hZ ls hl => ?_)
  have hl : lv_has ls 4 [(0, .ref lo_), (1, .ref v), (2, .ref ar), (3, .int (nI n))] := hl
  obtain ⟨hH, hL, hAl, hAr, hcap, hc, hel, hV, hnv, hna, hva⟩ := hP
  subst hH
  have hS : va_S A s.heap s.heap [] := va_S.rf
  have hlt : lo_ < s.heap.size := va_at.lt hL
  have hvt : v < s.heap.size := va_at.lt hV
  refine lv_iload_n hx hb dJx4a65c_add_72be8_0 rfl (lv_at hl 3 rfl) ?_
  refine lv_aload_n hx hb dJx4a65c_add_72be8_1 rfl (lv_at hl 2 rfl) ?_
  rcases hAr with ⟨rfl, rfl, rfl⟩ | ⟨hc0, hnc, hQ, hAar⟩
  · -- nothing in it yet
    refine rd_len0 hx hb hZ hS dJx4a65c_add_72be8_2 ?_
    refine lv_icmp_ne (tgt := 11) hx hb dJx4a65c_add_72be8_3 (by decide) (fun z => absurd rfl z) (fun _ => ?_)
    refine lv_aload_n hx hb dJx4a65c_add_72be8_6 rfl (lv_at hl 0 rfl) ?_
    refine ct_V (As := []) (rest := []) hx hb hml hown hu hE hZ hS (fun _ h => h) (fun q h => hA q (Nat.le_trans hS.1 h)) (c_gr0 l E A s.heap lo_ md) kJx4a65c_grow_d5877 u206 hL rfl rfl ⟨rfl, hL, hAl⟩ ⟨Nat.le_of_ble_eq_true rfl, Nat.le_of_ble_eq_true rfl⟩ rfl hl.1 rfl (Nat.le_of_ble_eq_true rfl) ⟨Nat.le_of_ble_eq_true rfl, Nat.le_of_ble_eq_true rfl⟩ dJx4a65c_add_72be8_7 (fun r H1 locs1 hR hS hz hk => ?_)
    obtain ⟨rfl, hL1, hQ1, ho1⟩ := hR
    refine lv_astore_n (lv' := [(2, .ref s.heap.size), (0, .ref lo_), (1, .ref v), (3, .int (nI 0))]) hx hb dJx4a65c_add_72be8_10 rfl hl (by decide) rfl (fun ls hl => ?_)
    refine lv_aload_n hx hb dJx4a65c_add_72be8_11 rfl (lv_at hl 0 rfl) ?_
    refine lv_iload_n hx hb dJx4a65c_add_72be8_12 rfl (lv_at hl 3 rfl) ?_
    refine lv_aload_n hx hb dJx4a65c_add_72be8_13 rfl (lv_at hl 2 rfl) ?_
    have hV1 : ob E v ci fs H1 := hV.kept (ho1 _ hvt (Ne.symm hnv))
    refine wr_qast hx hb hE hS (hA _ (Nat.le_refl _)) hQ1 hc hV1 (vp_in_nI (N := 10) (by decide) (by decide)) dJx4a65c_add_72be8_14 (fun H2 locs2 hQ2 hz2 ho2 hS => ?_)
    refine lv_aload_n hx hb dJx4a65c_add_72be8_15 rfl (lv_at hl 1 rfl) ?_
    refine lv_iload_n hx hb dJx4a65c_add_72be8_16 rfl (lv_at hl 3 rfl) ?_
    refine lv_iconst (v := 1) hx hb dJx4a65c_add_72be8_17 (by decide) ?_
    refine lv_iadd hx hb dJx4a65c_add_72be8_18 ?_
    rw [nI_1]
    have hL2 : ob E lo_ 0 [.int md, .ref s.heap.size, .int 0] H2 := hL1.kept (ho2 _ (Nat.ne_of_lt hlt))
    refine wr_put (k := 2) hx hb hown hu hE ok0 hS hAl hL2 (by decide) u64 (Or.inl rfl) rfl rfl rfl (Nat.le_of_ble_eq_true rfl) dJx4a65c_add_72be8_19 (fun H3 locs3 hL3 hz3 ho3 hS => ?_)
    have hQ3 : qa E s.heap.size 10 (fl (0 + 1) (va_up el 0 v)) H3 := qa_congr (hQ2.kept (ho3 _ (fun z => by have : s.heap.size = lo_ := z; omega))) (fun i _ => by rw [← fl_up]; rfl)
    exact ct_rv hx hb hr hlocks hS ⟨rfl, s.heap.size, hL3, hQ3, hA _ (Nat.le_refl _), by show 0 + 1 ≤ 10; omega, Or.inr (Nat.le_refl _), fun q hq h1 _ => by rw [ho3 q h1, ho2 q (by omega), ho1 q hq h1]⟩ (Nat.le_of_ble_eq_true rfl) (Nat.le_of_ble_eq_true rfl) dJx4a65c_add_72be8_22
  · refine rd_lenq hx hb hE hQ dJx4a65c_add_72be8_2 ?_
    have hat : ar < s.heap.size := va_at.lt hQ
    have hva := hva hc0
    refine lv_icmp_ne (tgt := 11) hx hb dJx4a65c_add_72be8_3 (by decide) (fun hne => ?_) (fun heq => ?_)
    · -- room is there
      have hn : n < cap := Nat.lt_of_le_of_ne hnc (fun z => hne (by rw [z]))
      have hnk : ncap n cap = cap := by unfold ncap; rw [if_neg (by omega), if_neg (by omega)]
      refine lv_aload_n hx hb dJx4a65c_add_72be8_11 rfl (lv_at hl 2 rfl) ?_
      refine lv_iload_n hx hb dJx4a65c_add_72be8_12 rfl (lv_at hl 3 rfl) ?_
      refine lv_aload_n hx hb dJx4a65c_add_72be8_13 rfl (lv_at hl 1 rfl) ?_
      refine wr_qast hx hb hE hS hAar hQ hc hV (vp_in_nI hn (by omega)) dJx4a65c_add_72be8_14 (fun H2 locs2 hQ2 hz2 ho2 hS => ?_)
      refine lv_aload_n hx hb dJx4a65c_add_72be8_15 rfl (lv_at hl 0 rfl) ?_
      refine lv_iload_n hx hb dJx4a65c_add_72be8_16 rfl (lv_at hl 3 rfl) ?_
      refine lv_iconst (v := 1) hx hb dJx4a65c_add_72be8_17 (by decide) ?_
      refine lv_iadd hx hb dJx4a65c_add_72be8_18 ?_
      rw [nI_1]
      have hL2 : ob E lo_ 0 [.int md, .ref ar, .int (nI n)] H2 := hL.kept (ho2 _ hna)
      refine wr_put (k := 2) hx hb hown hu hE ok0 hS hAl hL2 (by decide) u64 (Or.inl rfl) rfl rfl rfl (Nat.le_of_ble_eq_true rfl) dJx4a65c_add_72be8_19 (fun H3 locs3 hL3 hz3 ho3 hS => ?_)
      have hQ3 : qa E ar cap (fl (n + 1) (va_up el n v)) H3 := qa_congr (hQ2.kept (ho3 _ (Ne.symm hna))) (fun i _ => by rw [nI_clamp (by omega)]; exact fl_up i)
      exact ct_rv hx hb hr hlocks hS ⟨rfl, ar, hL3, by rw [hnk]; exact hQ3, hAar, by rw [hnk]; omega, Or.inl ⟨hc0, rfl⟩, fun q hq h1 h2 => by rw [ho3 q h1, ho2 q (h2.elim (fun z => by omega) id)]⟩ (by omega) (by omega) dJx4a65c_add_72be8_22
    · -- full
      have hn : n = cap := (nI_eq (by omega) (by omega)).mp heq
      subst hn
      have hnk : ncap n n = n + (if 1 < n / 2 then n / 2 else 1) := by unfold ncap; rw [if_neg (by omega), if_pos rfl]
      have hz0 : (if 1 < n / 2 then n / 2 else 1) ≤ 125 ∧ 1 ≤ (if 1 < n / 2 then n / 2 else 1) := by split <;> omega
      refine lv_aload_n hx hb dJx4a65c_add_72be8_6 rfl (lv_at hl 0 rfl) ?_
      refine ct_V (As := []) (rest := []) hx hb hml hown hu hE hZ hS (fun _ h => h) (fun q h => hA q (Nat.le_trans hS.1 h)) (c_gr1 l E A s.heap lo_ ar n ci (fl n el) md) kJx4a65c_grow_d5877 u206 hL rfl rfl ⟨rfl, hL, hAl, hQ, hAar, hc0, by omega, hc, el_fl hel⟩ ⟨Nat.le_of_ble_eq_true rfl, Nat.le_of_ble_eq_true rfl⟩ rfl hl.1 rfl (Nat.le_of_ble_eq_true rfl) ⟨by show 0 + 1 ≤ 1; omega, by show 0 + _ ≤ 400; omega⟩ dJx4a65c_add_72be8_7 (fun r H1 locs1 hR hS hz hk => ?_)
      obtain ⟨rfl, hL1, hQ1, ho1⟩ := hR
      refine lv_astore_n (lv' := [(2, .ref s.heap.size), (0, .ref lo_), (1, .ref v), (3, .int (nI n))]) hx hb dJx4a65c_add_72be8_10 rfl hl (by decide) rfl (fun ls hl => ?_)
      refine lv_aload_n hx hb dJx4a65c_add_72be8_11 rfl (lv_at hl 0 rfl) ?_
      refine lv_iload_n hx hb dJx4a65c_add_72be8_12 rfl (lv_at hl 3 rfl) ?_
      refine lv_aload_n hx hb dJx4a65c_add_72be8_13 rfl (lv_at hl 2 rfl) ?_
      have hV1 : ob E v ci fs H1 := hV.kept (ho1 _ hvt (Ne.symm hnv))
      refine wr_qast hx hb hE hS (hA _ (Nat.le_refl _)) hQ1 hc hV1 (vp_in_nI (by omega) (by omega)) dJx4a65c_add_72be8_14 (fun H2 locs2 hQ2 hz2 ho2 hS => ?_)
      refine lv_aload_n hx hb dJx4a65c_add_72be8_15 rfl (lv_at hl 1 rfl) ?_
      refine lv_iload_n hx hb dJx4a65c_add_72be8_16 rfl (lv_at hl 3 rfl) ?_
      refine lv_iconst (v := 1) hx hb dJx4a65c_add_72be8_17 (by decide) ?_
      refine lv_iadd hx hb dJx4a65c_add_72be8_18 ?_
      rw [nI_1]
      have hL2 : ob E lo_ 0 [.int md, .ref s.heap.size, .int (nI n)] H2 := hL1.kept (ho2 _ (Nat.ne_of_lt hlt))
      refine wr_put (k := 2) hx hb hown hu hE ok0 hS hAl hL2 (by decide) u64 (Or.inl rfl) rfl rfl rfl (Nat.le_of_ble_eq_true rfl) dJx4a65c_add_72be8_19 (fun H3 locs3 hL3 hz3 ho3 hS => ?_)
      have hQ3 : qa E s.heap.size (n + (if 1 < n / 2 then n / 2 else 1)) (fl (n + 1) (va_up el n v)) H3 := qa_congr (hQ2.kept (ho3 _ (fun z => by have : s.heap.size = lo_ := z; omega))) (fun i _ => by rw [nI_clamp (by omega)]; exact fl_up2 i)
      exact ct_rv hx hb hr hlocks hS ⟨rfl, s.heap.size, hL3, by rw [hnk]; exact hQ3, hA _ (Nat.le_refl _), by rw [hnk]; omega, Or.inr (Nat.le_refl _), fun q hq h1 _ => by rw [ho3 q h1, ho2 q (by omega), ho1 q hq h1]⟩ (by omega) (by omega) dJx4a65c_add_72be8_22
