set_option maxHeartbeats 1000000 in
set_option maxRecDepth 20000 in
theorem i_Law (l : Launch) (E : EV) (A : Nat → Prop) (H0 : Heap) (a : Nat) (ld : Int32) (dy : Int32) (wt : Int32) (nt : Int32) : Ct l E yX4_init cX4_init 5 none 1 20 0 0 A [.ref a, .int ld, .int dy, .int wt, .int nt] (fun H => H = H0 ∧ ob E a 5 df5 H ∧ A a) (fun v H => v = none ∧ ob E a 5 [.int ld, .int dy, .int (wt / 1000000), .int (rm (wt / 100000) 10), .int (rm (wt / 10000) 10), .int (rm (wt / 1000) 10), .int (rm wt 1000), .int nt] H ∧ ∀ q : Nat, q < H0.size → q ≠ a → H[q]? = H0[q]?) := by
  refine Ct.of (by decide +kernel) (Nat.le_of_ble_eq_true rfl) (fun pg ev s mi bel mth cd hx hb hr hml hown hu hlocks hnm hE hP hA hZ ls hl => ?_)
  have hl : lv_has ls 5 [(0, .ref a), (1, .int ld), (2, .int dy), (3, .int wt), (4, .int nt)] := hl
  have hS : va_S A s.heap s.heap [] := va_S.rf
  obtain ⟨h0, ho, hAa⟩ := hP
  have oc : ∀ q : Nat, q < H0.size → q ≠ a → s.heap[q]? = H0[q]? := fun q _ _ => by rw [h0]
  refine lv_aload_n hx hb dX4_init_0 rfl (lv_at hl 0 rfl) ?_
  refine W.objInit hx hb hown (hu _ u80) (hu _ u29) (hu _ u30) rfl (by rw [hml]; exact hl.1) rfl dX4_init_1 (Nat.le_of_ble_eq_true rfl) (Nat.le_of_ble_eq_true rfl) ?_
  refine W.eq (g2 := F0 mi 4 ls []) rfl ?_
  refine lv_aload_n hx hb dX4_init_4 rfl (lv_at hl 0 rfl) ?_
  refine lv_iload_n hx hb dX4_init_5 rfl (lv_at hl 1 rfl) ?_
  refine wr_putF (k := 0) hx hb hown hu hE ok5 hS hAa ho (by decide) u83 rfl rfl hnm rfl rfl (Nat.le_of_ble_eq_true rfl) dX4_init_6 (fun H1 locs1 ho hz oq hS => ?_)
  have oc : ∀ q : Nat, q < H0.size → q ≠ a → H1[q]? = H0[q]? := fun q h1 h2 => (oq q h2).trans (oc q h1 h2)
  refine lv_aload_n hx hb dX4_init_9 rfl (lv_at hl 0 rfl) ?_
  refine lv_iload_n hx hb dX4_init_10 rfl (lv_at hl 2 rfl) ?_
  refine wr_putF (k := 1) hx hb hown hu hE ok5 hS hAa ho (by decide) u85 rfl rfl hnm rfl rfl (Nat.le_of_ble_eq_true rfl) dX4_init_11 (fun H1 locs1 ho hz oq hS => ?_)
  have oc : ∀ q : Nat, q < H0.size → q ≠ a → H1[q]? = H0[q]? := fun q h1 h2 => (oq q h2).trans (oc q h1 h2)
  refine lv_aload_n hx hb dX4_init_14 rfl (lv_at hl 0 rfl) ?_
  refine lv_iload_n hx hb dX4_init_15 rfl (lv_at hl 3 rfl) ?_
  refine lv_ldc (v := 1000000) hx hb hown (hu _ u81) dX4_init_16 ?_
  refine lv_idiv hx hb dX4_init_18 (by decide) ?_
  refine wr_putF (k := 2) hx hb hown hu hE ok5 hS hAa ho (by decide) u87 rfl rfl hnm rfl rfl (Nat.le_of_ble_eq_true rfl) dX4_init_19 (fun H1 locs1 ho hz oq hS => ?_)
  have oc : ∀ q : Nat, q < H0.size → q ≠ a → H1[q]? = H0[q]? := fun q h1 h2 => (oq q h2).trans (oc q h1 h2)
  refine lv_aload_n hx hb dX4_init_22 rfl (lv_at hl 0 rfl) ?_
  refine lv_iload_n hx hb dX4_init_23 rfl (lv_at hl 3 rfl) ?_
  refine lv_ldc (v := 100000) hx hb hown (hu _ u82) dX4_init_24 ?_
  refine lv_idiv hx hb dX4_init_26 (by decide) ?_
  refine lv_bipush (v := 10) hx hb dX4_init_27 (by decide) ?_
  refine lv_irem hx hb dX4_init_29 (by decide) ?_
  refine wr_putF (k := 3) hx hb hown hu hE ok5 hS hAa ho (by decide) u89 rfl rfl hnm rfl rfl (Nat.le_of_ble_eq_true rfl) dX4_init_30 (fun H1 locs1 ho hz oq hS => ?_)
  have oc : ∀ q : Nat, q < H0.size → q ≠ a → H1[q]? = H0[q]? := fun q h1 h2 => (oq q h2).trans (oc q h1 h2)
  refine lv_aload_n hx hb dX4_init_33 rfl (lv_at hl 0 rfl) ?_
  refine lv_iload_n hx hb dX4_init_34 rfl (lv_at hl 3 rfl) ?_
  refine lv_sipush (v := 10000) hx hb dX4_init_35 (by decide) ?_
  refine lv_idiv hx hb dX4_init_38 (by decide) ?_
  refine lv_bipush (v := 10) hx hb dX4_init_39 (by decide) ?_
  refine lv_irem hx hb dX4_init_41 (by decide) ?_
  refine wr_putF (k := 4) hx hb hown hu hE ok5 hS hAa ho (by decide) u91 rfl rfl hnm rfl rfl (Nat.le_of_ble_eq_true rfl) dX4_init_42 (fun H1 locs1 ho hz oq hS => ?_)
  have oc : ∀ q : Nat, q < H0.size → q ≠ a → H1[q]? = H0[q]? := fun q h1 h2 => (oq q h2).trans (oc q h1 h2)
  refine lv_aload_n hx hb dX4_init_45 rfl (lv_at hl 0 rfl) ?_
  refine lv_iload_n hx hb dX4_init_46 rfl (lv_at hl 3 rfl) ?_
  refine lv_sipush (v := 1000) hx hb dX4_init_47 (by decide) ?_
  refine lv_idiv hx hb dX4_init_50 (by decide) ?_
  refine lv_bipush (v := 10) hx hb dX4_init_51 (by decide) ?_
  refine lv_irem hx hb dX4_init_53 (by decide) ?_
  refine wr_putF (k := 5) hx hb hown hu hE ok5 hS hAa ho (by decide) u92 rfl rfl hnm rfl rfl (Nat.le_of_ble_eq_true rfl) dX4_init_54 (fun H1 locs1 ho hz oq hS => ?_)
  have oc : ∀ q : Nat, q < H0.size → q ≠ a → H1[q]? = H0[q]? := fun q h1 h2 => (oq q h2).trans (oc q h1 h2)
  refine lv_aload_n hx hb dX4_init_57 rfl (lv_at hl 0 rfl) ?_
  refine lv_iload_n hx hb dX4_init_58 rfl (lv_at hl 3 rfl) ?_
  refine lv_sipush (v := 1000) hx hb dX4_init_59 (by decide) ?_
  refine lv_irem hx hb dX4_init_62 (by decide) ?_
  refine wr_putF (k := 6) hx hb hown hu hE ok5 hS hAa ho (by decide) u94 rfl rfl hnm rfl rfl (Nat.le_of_ble_eq_true rfl) dX4_init_63 (fun H1 locs1 ho hz oq hS => ?_)
  have oc : ∀ q : Nat, q < H0.size → q ≠ a → H1[q]? = H0[q]? := fun q h1 h2 => (oq q h2).trans (oc q h1 h2)
  refine lv_aload_n hx hb dX4_init_66 rfl (lv_at hl 0 rfl) ?_
  refine lv_iload hx hb dX4_init_67 (lv_at hl 4 rfl) ?_
  refine wr_putF (k := 7) hx hb hown hu hE ok5 hS hAa ho (by decide) u96 rfl rfl hnm rfl rfl (Nat.le_of_ble_eq_true rfl) dX4_init_69 (fun H1 locs1 ho hz oq hS => ?_)
  have oc : ∀ q : Nat, q < H0.size → q ≠ a → H1[q]? = H0[q]? := fun q h1 h2 => (oq q h2).trans (oc q h1 h2)
  exact ct_rv hx hb hr hlocks hS (⟨rfl, ho, oc⟩) (Nat.le_of_ble_eq_true rfl) (Nat.le_of_ble_eq_true rfl) dX4_init_72
set_option maxHeartbeats 1000000 in
set_option maxRecDepth 20000 in
theorem i_Pap (l : Launch) (E : EV) (A : Nat → Prop) (H0 : Heap) (a : Nat) (kn : Int32) (dy : Int32) : Ct l E yX8_init cX8_init 3 none 1 20 0 0 A [.ref a, .int kn, .int dy] (fun H => H = H0 ∧ ob E a 9 df9 H ∧ A a) (fun v H => v = none ∧ ob E a 9 [.int kn, .int dy] H ∧ ∀ q : Nat, q < H0.size → q ≠ a → H[q]? = H0[q]?) := by
  refine Ct.of (by decide +kernel) (Nat.le_of_ble_eq_true rfl) (fun pg ev s mi bel mth cd hx hb hr hml hown hu hlocks hnm hE hP hA hZ ls hl => ?_)
  have hl : lv_has ls 3 [(0, .ref a), (1, .int kn), (2, .int dy)] := hl
  have hS : va_S A s.heap s.heap [] := va_S.rf
  obtain ⟨h0, ho, hAa⟩ := hP
  have oc : ∀ q : Nat, q < H0.size → q ≠ a → s.heap[q]? = H0[q]? := fun q _ _ => by rw [h0]
  refine lv_aload_n hx hb dX8_init_0 rfl (lv_at hl 0 rfl) ?_
  refine W.objInit hx hb hown (hu _ u345) (hu _ u29) (hu _ u30) rfl (by rw [hml]; exact hl.1) rfl dX8_init_1 (Nat.le_of_ble_eq_true rfl) (Nat.le_of_ble_eq_true rfl) ?_
  refine W.eq (g2 := F0 mi 4 ls []) rfl ?_
  refine lv_aload_n hx hb dX8_init_4 rfl (lv_at hl 0 rfl) ?_
  refine lv_iload_n hx hb dX8_init_5 rfl (lv_at hl 1 rfl) ?_
  refine wr_putF (k := 0) hx hb hown hu hE ok9 hS hAa ho (by decide) u346 rfl rfl hnm rfl rfl (Nat.le_of_ble_eq_true rfl) dX8_init_6 (fun H1 locs1 ho hz oq hS => ?_)
  have oc : ∀ q : Nat, q < H0.size → q ≠ a → H1[q]? = H0[q]? := fun q h1 h2 => (oq q h2).trans (oc q h1 h2)
  refine lv_aload_n hx hb dX8_init_9 rfl (lv_at hl 0 rfl) ?_
  refine lv_iload_n hx hb dX8_init_10 rfl (lv_at hl 2 rfl) ?_
  refine wr_putF (k := 1) hx hb hown hu hE ok9 hS hAa ho (by decide) u348 rfl rfl hnm rfl rfl (Nat.le_of_ble_eq_true rfl) dX8_init_11 (fun H1 locs1 ho hz oq hS => ?_)
  have oc : ∀ q : Nat, q < H0.size → q ≠ a → H1[q]? = H0[q]? := fun q h1 h2 => (oq q h2).trans (oc q h1 h2)
  exact ct_rv hx hb hr hlocks hS (⟨rfl, ho, oc⟩) (Nat.le_of_ble_eq_true rfl) (Nat.le_of_ble_eq_true rfl) dX8_init_14
set_option maxHeartbeats 1000000 in
set_option maxRecDepth 20000 in
theorem i_Not (l : Launch) (E : EV) (A : Nat → Prop) (H0 : Heap) (a : Nat) (nu : Int32) (p1 : Nat) (p2 : Nat) (po : Int32) : Ct l E yX6_init cX6_init 5 none 1 20 0 0 A [.ref a, .int nu, .ref p1, .ref p2, .int po] (fun H => H = H0 ∧ ob E a 7 df7 H ∧ A a) (fun v H => v = none ∧ ob E a 7 [.int nu, .ref p1, .ref p2, .int po, .int 0, .int 0, .int (-1), .int (-1)] H ∧ ∀ q : Nat, q < H0.size → q ≠ a → H[q]? = H0[q]?) := by
  refine Ct.of (by decide +kernel) (Nat.le_of_ble_eq_true rfl) (fun pg ev s mi bel mth cd hx hb hr hml hown hu hlocks hnm hE hP hA hZ ls hl => ?_)
  have hl : lv_has ls 5 [(0, .ref a), (1, .int nu), (2, .ref p1), (3, .ref p2), (4, .int po)] := hl
  have hS : va_S A s.heap s.heap [] := va_S.rf
  obtain ⟨h0, ho, hAa⟩ := hP
  have oc : ∀ q : Nat, q < H0.size → q ≠ a → s.heap[q]? = H0[q]? := fun q _ _ => by rw [h0]
  refine lv_aload_n hx hb dX6_init_0 rfl (lv_at hl 0 rfl) ?_
  refine W.objInit hx hb hown (hu _ u446) (hu _ u29) (hu _ u30) rfl (by rw [hml]; exact hl.1) rfl dX6_init_1 (Nat.le_of_ble_eq_true rfl) (Nat.le_of_ble_eq_true rfl) ?_
  refine W.eq (g2 := F0 mi 4 ls []) rfl ?_
  refine lv_aload_n hx hb dX6_init_4 rfl (lv_at hl 0 rfl) ?_
  refine lv_iload_n hx hb dX6_init_5 rfl (lv_at hl 1 rfl) ?_
  refine wr_putF (k := 0) hx hb hown hu hE ok7 hS hAa ho (by decide) u447 rfl rfl hnm rfl rfl (Nat.le_of_ble_eq_true rfl) dX6_init_6 (fun H1 locs1 ho hz oq hS => ?_)
  have oc : ∀ q : Nat, q < H0.size → q ≠ a → H1[q]? = H0[q]? := fun q h1 h2 => (oq q h2).trans (oc q h1 h2)
  refine lv_aload_n hx hb dX6_init_9 rfl (lv_at hl 0 rfl) ?_
  refine lv_aload_n hx hb dX6_init_10 rfl (lv_at hl 2 rfl) ?_
  refine wr_putF (k := 1) hx hb hown hu hE ok7 hS hAa ho (by decide) u449 rfl rfl hnm rfl rfl (Nat.le_of_ble_eq_true rfl) dX6_init_11 (fun H1 locs1 ho hz oq hS => ?_)
  have oc : ∀ q : Nat, q < H0.size → q ≠ a → H1[q]? = H0[q]? := fun q h1 h2 => (oq q h2).trans (oc q h1 h2)
  refine lv_aload_n hx hb dX6_init_14 rfl (lv_at hl 0 rfl) ?_
  refine lv_aload_n hx hb dX6_init_15 rfl (lv_at hl 3 rfl) ?_
  refine wr_putF (k := 2) hx hb hown hu hE ok7 hS hAa ho (by decide) u452 rfl rfl hnm rfl rfl (Nat.le_of_ble_eq_true rfl) dX6_init_16 (fun H1 locs1 ho hz oq hS => ?_)
  have oc : ∀ q : Nat, q < H0.size → q ≠ a → H1[q]? = H0[q]? := fun q h1 h2 => (oq q h2).trans (oc q h1 h2)
  refine lv_aload_n hx hb dX6_init_19 rfl (lv_at hl 0 rfl) ?_
  refine lv_iload hx hb dX6_init_20 (lv_at hl 4 rfl) ?_
  refine wr_putF (k := 3) hx hb hown hu hE ok7 hS hAa ho (by decide) u455 rfl rfl hnm rfl rfl (Nat.le_of_ble_eq_true rfl) dX6_init_22 (fun H1 locs1 ho hz oq hS => ?_)
  have oc : ∀ q : Nat, q < H0.size → q ≠ a → H1[q]? = H0[q]? := fun q h1 h2 => (oq q h2).trans (oc q h1 h2)
  refine lv_aload_n hx hb dX6_init_25 rfl (lv_at hl 0 rfl) ?_
  refine lv_iconst (v := 0) hx hb dX6_init_26 (by decide) ?_
  refine wr_put (k := 4) hx hb hown hu hE ok7 hS hAa ho (by decide) u457 (Or.inl rfl) rfl rfl rfl (Nat.le_of_ble_eq_true rfl) dX6_init_27 (fun H1 locs1 ho hz oq hS => ?_)
  have oc : ∀ q : Nat, q < H0.size → q ≠ a → H1[q]? = H0[q]? := fun q h1 h2 => (oq q h2).trans (oc q h1 h2)
  refine lv_aload_n hx hb dX6_init_30 rfl (lv_at hl 0 rfl) ?_
  refine lv_iconst (v := 0) hx hb dX6_init_31 (by decide) ?_
  refine wr_put (k := 5) hx hb hown hu hE ok7 hS hAa ho (by decide) u459 (Or.inl rfl) rfl rfl rfl (Nat.le_of_ble_eq_true rfl) dX6_init_32 (fun H1 locs1 ho hz oq hS => ?_)
  have oc : ∀ q : Nat, q < H0.size → q ≠ a → H1[q]? = H0[q]? := fun q h1 h2 => (oq q h2).trans (oc q h1 h2)
  refine lv_aload_n hx hb dX6_init_35 rfl (lv_at hl 0 rfl) ?_
  refine lv_iconst (v := (-1)) hx hb dX6_init_36 (by decide) ?_
  refine wr_put (k := 6) hx hb hown hu hE ok7 hS hAa ho (by decide) u461 (Or.inl rfl) rfl rfl rfl (Nat.le_of_ble_eq_true rfl) dX6_init_37 (fun H1 locs1 ho hz oq hS => ?_)
  have oc : ∀ q : Nat, q < H0.size → q ≠ a → H1[q]? = H0[q]? := fun q h1 h2 => (oq q h2).trans (oc q h1 h2)
  refine lv_aload_n hx hb dX6_init_40 rfl (lv_at hl 0 rfl) ?_
  refine lv_iconst (v := (-1)) hx hb dX6_init_41 (by decide) ?_
  refine wr_put (k := 7) hx hb hown hu hE ok7 hS hAa ho (by decide) u464 (Or.inl rfl) rfl rfl rfl (Nat.le_of_ble_eq_true rfl) dX6_init_42 (fun H1 locs1 ho hz oq hS => ?_)
  have oc : ∀ q : Nat, q < H0.size → q ≠ a → H1[q]? = H0[q]? := fun q h1 h2 => (oq q h2).trans (oc q h1 h2)
  exact ct_rv hx hb hr hlocks hS (⟨rfl, ho, oc⟩) (Nat.le_of_ble_eq_true rfl) (Nat.le_of_ble_eq_true rfl) dX6_init_45
set_option maxHeartbeats 1000000 in
set_option maxRecDepth 20000 in
theorem i_Obj (l : Launch) (E : EV) (A : Nat → Prop) (H0 : Heap) (a : Nat) (no : Nat) : Ct l E yX7_init cX7_init 2 none 1 20 0 0 A [.ref a, .ref no] (fun H => H = H0 ∧ ob E a 8 df8 H ∧ A a) (fun v H => v = none ∧ ob E a 8 [.ref no, .int 1] H ∧ ∀ q : Nat, q < H0.size → q ≠ a → H[q]? = H0[q]?) := by
  refine Ct.of (by decide +kernel) (Nat.le_of_ble_eq_true rfl) (fun pg ev s mi bel mth cd hx hb hr hml hown hu hlocks hnm hE hP hA hZ ls hl => ?_)
  have hl : lv_has ls 2 [(0, .ref a), (1, .ref no)] := hl
  have hS : va_S A s.heap s.heap [] := va_S.rf
  obtain ⟨h0, ho, hAa⟩ := hP
  have oc : ∀ q : Nat, q < H0.size → q ≠ a → s.heap[q]? = H0[q]? := fun q _ _ => by rw [h0]
  refine lv_aload_n hx hb dX7_init_0 rfl (lv_at hl 0 rfl) ?_
  refine W.objInit hx hb hown (hu _ u535) (hu _ u29) (hu _ u30) rfl (by rw [hml]; exact hl.1) rfl dX7_init_1 (Nat.le_of_ble_eq_true rfl) (Nat.le_of_ble_eq_true rfl) ?_
  refine W.eq (g2 := F0 mi 4 ls []) rfl ?_
  refine lv_aload_n hx hb dX7_init_4 rfl (lv_at hl 0 rfl) ?_
  refine lv_aload_n hx hb dX7_init_5 rfl (lv_at hl 1 rfl) ?_
  refine wr_putF (k := 0) hx hb hown hu hE ok8 hS hAa ho (by decide) u536 rfl rfl hnm rfl rfl (Nat.le_of_ble_eq_true rfl) dX7_init_6 (fun H1 locs1 ho hz oq hS => ?_)
  have oc : ∀ q : Nat, q < H0.size → q ≠ a → H1[q]? = H0[q]? := fun q h1 h2 => (oq q h2).trans (oc q h1 h2)
  refine lv_aload_n hx hb dX7_init_9 rfl (lv_at hl 0 rfl) ?_
  refine lv_iconst (v := 1) hx hb dX7_init_10 (by decide) ?_
  refine wr_put (k := 1) hx hb hown hu hE ok8 hS hAa ho (by decide) u538 (Or.inl rfl) rfl rfl rfl (Nat.le_of_ble_eq_true rfl) dX7_init_11 (fun H1 locs1 ho hz oq hS => ?_)
  have oc : ∀ q : Nat, q < H0.size → q ≠ a → H1[q]? = H0[q]? := fun q h1 h2 => (oq q h2).trans (oc q h1 h2)
  exact ct_rv hx hb hr hlocks hS (⟨rfl, ho, oc⟩) (Nat.le_of_ble_eq_true rfl) (Nat.le_of_ble_eq_true rfl) dX7_init_14
set_option maxHeartbeats 1000000 in
set_option maxRecDepth 20000 in
theorem i_Cor (l : Launch) (E : EV) (A : Nat → Prop) (H0 : Heap) (a : Nat) (en : Int32) (fd : Int32) (vl : Int32) (dy : Int32) : Ct l E yX1_init cX1_init 5 none 1 20 0 0 A [.ref a, .int en, .int fd, .int vl, .int dy] (fun H => H = H0 ∧ ob E a 2 df2 H ∧ A a) (fun v H => v = none ∧ ob E a 2 [.int en, .int fd, .int vl, .int dy] H ∧ ∀ q : Nat, q < H0.size → q ≠ a → H[q]? = H0[q]?) := by
  refine Ct.of (by decide +kernel) (Nat.le_of_ble_eq_true rfl) (fun pg ev s mi bel mth cd hx hb hr hml hown hu hlocks hnm hE hP hA hZ ls hl => ?_)
  have hl : lv_has ls 5 [(0, .ref a), (1, .int en), (2, .int fd), (3, .int vl), (4, .int dy)] := hl
  have hS : va_S A s.heap s.heap [] := va_S.rf
  obtain ⟨h0, ho, hAa⟩ := hP
  have oc : ∀ q : Nat, q < H0.size → q ≠ a → s.heap[q]? = H0[q]? := fun q _ _ => by rw [h0]
  refine lv_aload_n hx hb dX1_init_0 rfl (lv_at hl 0 rfl) ?_
  refine W.objInit hx hb hown (hu _ u695) (hu _ u29) (hu _ u30) rfl (by rw [hml]; exact hl.1) rfl dX1_init_1 (Nat.le_of_ble_eq_true rfl) (Nat.le_of_ble_eq_true rfl) ?_
  refine W.eq (g2 := F0 mi 4 ls []) rfl ?_
  refine lv_aload_n hx hb dX1_init_4 rfl (lv_at hl 0 rfl) ?_
  refine lv_iload_n hx hb dX1_init_5 rfl (lv_at hl 1 rfl) ?_
  refine wr_putF (k := 0) hx hb hown hu hE ok2 hS hAa ho (by decide) u696 rfl rfl hnm rfl rfl (Nat.le_of_ble_eq_true rfl) dX1_init_6 (fun H1 locs1 ho hz oq hS => ?_)
  have oc : ∀ q : Nat, q < H0.size → q ≠ a → H1[q]? = H0[q]? := fun q h1 h2 => (oq q h2).trans (oc q h1 h2)
  refine lv_aload_n hx hb dX1_init_9 rfl (lv_at hl 0 rfl) ?_
  refine lv_iload_n hx hb dX1_init_10 rfl (lv_at hl 2 rfl) ?_
  refine wr_putF (k := 1) hx hb hown hu hE ok2 hS hAa ho (by decide) u698 rfl rfl hnm rfl rfl (Nat.le_of_ble_eq_true rfl) dX1_init_11 (fun H1 locs1 ho hz oq hS => ?_)
  have oc : ∀ q : Nat, q < H0.size → q ≠ a → H1[q]? = H0[q]? := fun q h1 h2 => (oq q h2).trans (oc q h1 h2)
  refine lv_aload_n hx hb dX1_init_14 rfl (lv_at hl 0 rfl) ?_
  refine lv_iload_n hx hb dX1_init_15 rfl (lv_at hl 3 rfl) ?_
  refine wr_putF (k := 2) hx hb hown hu hE ok2 hS hAa ho (by decide) u700 rfl rfl hnm rfl rfl (Nat.le_of_ble_eq_true rfl) dX1_init_16 (fun H1 locs1 ho hz oq hS => ?_)
  have oc : ∀ q : Nat, q < H0.size → q ≠ a → H1[q]? = H0[q]? := fun q h1 h2 => (oq q h2).trans (oc q h1 h2)
  refine lv_aload_n hx hb dX1_init_19 rfl (lv_at hl 0 rfl) ?_
  refine lv_iload hx hb dX1_init_20 (lv_at hl 4 rfl) ?_
  refine wr_putF (k := 3) hx hb hown hu hE ok2 hS hAa ho (by decide) u702 rfl rfl hnm rfl rfl (Nat.le_of_ble_eq_true rfl) dX1_init_22 (fun H1 locs1 ho hz oq hS => ?_)
  have oc : ∀ q : Nat, q < H0.size → q ≠ a → H1[q]? = H0[q]? := fun q h1 h2 => (oq q h2).trans (oc q h1 h2)
  exact ct_rv hx hb hr hlocks hS (⟨rfl, ho, oc⟩) (Nat.le_of_ble_eq_true rfl) (Nat.le_of_ble_eq_true rfl) dX1_init_25
set_option maxHeartbeats 1000000 in
set_option maxRecDepth 20000 in
theorem i_Per (l : Launch) (E : EV) (A : Nat → Prop) (H0 : Heap) (a : Nat) (nu wh bo : Int32) (fa mo : Option Nat) : Ct l E yX9_init cX9_init 6 none 4 80 1 3 A [.ref a, .int nu, .int wh, .int bo, va_rf fa, va_rf mo] (fun H => H = H0 ∧ ob E a 10 df10 H ∧ A a) (fun v H => v = none ∧ ∃ b : Nat, H0.size ≤ b ∧ ob E a 10 [.int nu, .int (wh / 1000000), .int (rm (wh / 10000) 100), .int (rm wh 10000), .int bo, va_rf fa, va_rf mo, .ref b, .null] H ∧ ob E b 0 [.int 0, .ref (E.2 11), .int 0] H ∧ A b ∧ ∀ q : Nat, q < H0.size → q ≠ a → H[q]? = H0[q]?) := by
  refine Ct.of (by decide +kernel) (by cases fa <;> cases mo <;> exact Nat.le_of_ble_eq_true rfl) (fun pg ev s mi bel mth cd hx hb hr hml hown hu hlocks hnm hE hP hA hZ ls hl => ?_)
  have hl : lv_has ls 6 [(0, .ref a), (1, .int nu), (2, .int wh), (3, .int bo), (4, va_rf fa), (5, va_rf mo)] := by (revert hl; cases fa <;> cases mo <;> exact id)
  have hS : va_S A s.heap s.heap [] := va_S.rf
  obtain ⟨h0, ho, hAa⟩ := hP
  have oc : ∀ q : Nat, q < H0.size → q ≠ a → s.heap[q]? = H0[q]? := fun q _ _ => by rw [h0]
  refine lv_aload_n hx hb dX9_init_0 rfl (lv_at hl 0 rfl) ?_
  refine W.objInit hx hb hown (hu _ u294) (hu _ u29) (hu _ u30) rfl (by rw [hml]; exact hl.1) rfl dX9_init_1 (Nat.le_of_ble_eq_true rfl) (Nat.le_of_ble_eq_true rfl) ?_
  refine W.eq (g2 := F0 mi 4 ls []) rfl ?_
  refine lv_aload_n hx hb dX9_init_4 rfl (lv_at hl 0 rfl) ?_
  refine lv_iload_n hx hb dX9_init_5 rfl (lv_at hl 1 rfl) ?_
  refine wr_putF (k := 0) hx hb hown hu hE ok10 hS hAa ho (by decide) u297 rfl rfl hnm rfl rfl (Nat.le_of_ble_eq_true rfl) dX9_init_6 (fun H1 locs1 ho hz oq hS => ?_)
  have oc : ∀ q : Nat, q < H0.size → q ≠ a → H1[q]? = H0[q]? := fun q h1 h2 => (oq q h2).trans (oc q h1 h2)
  refine lv_aload_n hx hb dX9_init_9 rfl (lv_at hl 0 rfl) ?_
  refine lv_iload_n hx hb dX9_init_10 rfl (lv_at hl 2 rfl) ?_
  refine lv_ldc (v := 1000000) hx hb hown (hu _ u265) dX9_init_11 ?_
  refine lv_idiv hx hb dX9_init_13 (by decide) ?_
  refine wr_putF (k := 1) hx hb hown hu hE ok10 hS hAa ho (by decide) u300 rfl rfl hnm rfl rfl (Nat.le_of_ble_eq_true rfl) dX9_init_14 (fun H1 locs1 ho hz oq hS => ?_)
  have oc : ∀ q : Nat, q < H0.size → q ≠ a → H1[q]? = H0[q]? := fun q h1 h2 => (oq q h2).trans (oc q h1 h2)
  refine lv_aload_n hx hb dX9_init_17 rfl (lv_at hl 0 rfl) ?_
  refine lv_iload_n hx hb dX9_init_18 rfl (lv_at hl 2 rfl) ?_
  refine lv_sipush (v := 10000) hx hb dX9_init_19 (by decide) ?_
  refine lv_idiv hx hb dX9_init_22 (by decide) ?_
  refine lv_bipush (v := 100) hx hb dX9_init_23 (by decide) ?_
  refine lv_irem hx hb dX9_init_25 (by decide) ?_
  refine wr_putF (k := 2) hx hb hown hu hE ok10 hS hAa ho (by decide) u302 rfl rfl hnm rfl rfl (Nat.le_of_ble_eq_true rfl) dX9_init_26 (fun H1 locs1 ho hz oq hS => ?_)
  have oc : ∀ q : Nat, q < H0.size → q ≠ a → H1[q]? = H0[q]? := fun q h1 h2 => (oq q h2).trans (oc q h1 h2)
  refine lv_aload_n hx hb dX9_init_29 rfl (lv_at hl 0 rfl) ?_
  refine lv_iload_n hx hb dX9_init_30 rfl (lv_at hl 2 rfl) ?_
  refine lv_sipush (v := 10000) hx hb dX9_init_31 (by decide) ?_
  refine lv_irem hx hb dX9_init_34 (by decide) ?_
  refine wr_putF (k := 3) hx hb hown hu hE ok10 hS hAa ho (by decide) u305 rfl rfl hnm rfl rfl (Nat.le_of_ble_eq_true rfl) dX9_init_35 (fun H1 locs1 ho hz oq hS => ?_)
  have oc : ∀ q : Nat, q < H0.size → q ≠ a → H1[q]? = H0[q]? := fun q h1 h2 => (oq q h2).trans (oc q h1 h2)
  refine lv_aload_n hx hb dX9_init_38 rfl (lv_at hl 0 rfl) ?_
  refine lv_iload_n hx hb dX9_init_39 rfl (lv_at hl 3 rfl) ?_
  refine wr_putF (k := 4) hx hb hown hu hE ok10 hS hAa ho (by decide) u306 rfl rfl hnm rfl rfl (Nat.le_of_ble_eq_true rfl) dX9_init_40 (fun H1 locs1 ho hz oq hS => ?_)
  have oc : ∀ q : Nat, q < H0.size → q ≠ a → H1[q]? = H0[q]? := fun q h1 h2 => (oq q h2).trans (oc q h1 h2)
  refine lv_aload_n hx hb dX9_init_43 rfl (lv_at hl 0 rfl) ?_
  refine ld_q hx hb dX9_init_44 (lv_at hl 4 rfl) ?_
  refine wr_putF (k := 5) hx hb hown hu hE ok10 hS hAa ho (by decide) u308 rfl rfl hnm nar_q fit_q (Nat.le_of_ble_eq_true rfl) dX9_init_46 (fun H1 locs1 ho hz oq hS => ?_)
  have oc : ∀ q : Nat, q < H0.size → q ≠ a → H1[q]? = H0[q]? := fun q h1 h2 => (oq q h2).trans (oc q h1 h2)
  refine lv_aload_n hx hb dX9_init_49 rfl (lv_at hl 0 rfl) ?_
  refine ld_q hx hb dX9_init_50 (lv_at hl 5 rfl) ?_
  refine wr_putF (k := 6) hx hb hown hu hE ok10 hS hAa ho (by decide) u310 rfl rfl hnm nar_q fit_q (Nat.le_of_ble_eq_true rfl) dX9_init_52 (fun H1 locs1 ho hz oq hS => ?_)
  have oc : ∀ q : Nat, q < H0.size → q ≠ a → H1[q]? = H0[q]? := fun q h1 h2 => (oq q h2).trans (oc q h1 h2)
  refine lv_aload_n hx hb dX9_init_55 rfl (lv_at hl 0 rfl) ?_
  obtain ⟨nb, hnb⟩ : ∃ z : Nat, z = H1.size := ⟨_, rfl⟩
  have hAnb : A nb := hA nb (by rw [hnb]; exact hS.1)
  have hsz := hS.1
  have hat := at_lt ho
  refine nw_new (fs := df0) hx hb hown hu hE ok0 hS u295 dfl0 (Nat.le_of_ble_eq_true rfl) (Nat.le_of_ble_eq_true rfl) dX9_init_56 (fun H1 hbnb hz oq hS => ?_)
  rw [← hnb] at hbnb hz oq hat  ⊢
  have ho := ho.kept (oq _ hat)
  have hlenb : H0.size ≤ nb := by rw [hnb, ← h0]; exact hsz
  have oc : ∀ q : Nat, q < H0.size → q ≠ a → H1[q]? = H0[q]? := fun q h1 h2 => (oq q (Nat.lt_of_lt_of_le h1 hlenb)).trans (oc q h1 h2)
  refine lv_dup hx hb dX9_init_59 rfl ?_
  refine ct_I (As := []) (rest := [.ref nb, .ref a]) hx hb hml hown hu hE hZ hS (fun _ h => h) (fun q h => hA q (Nat.le_trans hS.1 h)) (c_alI l E A H1 nb) kJx4a65c_init_da8c8 u296 (⟨rfl, hbnb, hAnb⟩) ⟨Nat.le_of_ble_eq_true rfl, Nat.le_of_ble_eq_true rfl⟩ rfl hl.1 rfl (Nat.le_of_ble_eq_true rfl) ⟨Nat.le_of_ble_eq_true rfl, Nat.le_of_ble_eq_true rfl⟩ dX9_init_60 (fun v1 H1 locs1 hR hS hz hk => ?_)
  obtain ⟨rfl, hbnb, oq⟩ := hR
  have ho := ho.kept (oq _ (Nat.ne_of_lt hat))
  have oc : ∀ q : Nat, q < H0.size → q ≠ a → H1[q]? = H0[q]? := fun q h1 h2 => (oq q (by omega)).trans (oc q h1 h2)
  refine wr_putF (k := 7) hx hb hown hu hE ok10 hS hAa ho (by decide) u312 rfl rfl hnm rfl rfl (Nat.le_of_ble_eq_true rfl) dX9_init_63 (fun H1 locs1 ho hz oq hS => ?_)
  have oc : ∀ q : Nat, q < H0.size → q ≠ a → H1[q]? = H0[q]? := fun q h1 h2 => (oq q h2).trans (oc q h1 h2)
  have hbnb := hbnb.kept (oq _ (by omega))
  refine lv_aload_n hx hb dX9_init_66 rfl (lv_at hl 0 rfl) ?_
  refine lv_null hx hb dX9_init_67 ?_
  refine wr_put (k := 8) hx hb hown hu hE ok10 hS hAa ho (by decide) u314 (Or.inl rfl) rfl rfl rfl (Nat.le_of_ble_eq_true rfl) dX9_init_68 (fun H1 locs1 ho hz oq hS => ?_)
  have oc : ∀ q : Nat, q < H0.size → q ≠ a → H1[q]? = H0[q]? := fun q h1 h2 => (oq q h2).trans (oc q h1 h2)
  have hbnb := hbnb.kept (oq _ (by omega))
  exact ct_rv hx hb hr hlocks hS (⟨rfl, nb, hlenb, ho, hbnb, hAnb, oc⟩) (Nat.le_of_ble_eq_true rfl) (Nat.le_of_ble_eq_true rfl) dX9_init_71
set_option maxHeartbeats 1000000 in
set_option maxRecDepth 20000 in
theorem i_Ent (l : Launch) (E : EV) (A : Nat → Prop) (H0 : Heap) (σ : St) (L : Nat → Nat → Nat) (a : Nat) (n dy : Int32) : Ct l E yX3_init cX3_init 3 none 1 20 0 0 A [.ref a, .ref (L 22 n.toNatClampNeg), .int dy] (fun H => H = H0 ∧ ob E a 4 df4 H ∧ A a ∧ Cd E A σ L H ∧ InvM σ ∧ okN σ n ∧ ∀ k i, cv σ k i → L k i ≠ a) (fun v H => v = none ∧ ob E a 4 [.ref (L 22 n.toNatClampNeg), .int dy, .int (gA σ 9 (gA σ 17 n)), .int (gA σ 9 (gA σ 18 n)), .int (rm (gA σ 22 n / 10) 10), .int (rm (gA σ 22 n) 10)] H ∧ ∀ q : Nat, q < H0.size → q ≠ a → H[q]? = H0[q]?) := by
  refine Ct.of (by decide +kernel) (Nat.le_of_ble_eq_true rfl) (fun pg ev s mi bel mth cd hx hb hr hml hown hu hlocks hnm hE hP hA hZ ls hl => ?_)
  have hl : lv_has ls 3 [(0, .ref a), (1, .ref (L 22 n.toNatClampNeg)), (2, .int dy)] := hl
  have hS : va_S A s.heap s.heap [] := va_S.rf
  obtain ⟨h0, ho, hAa, hC, hI, hX, hfr⟩ := hP
  have oc : ∀ q : Nat, q < H0.size → q ≠ a → s.heap[q]? = H0[q]? := fun q _ _ => by rw [h0]
  refine lv_aload_n hx hb dX3_init_0 rfl (lv_at hl 0 rfl) ?_
  refine W.objInit hx hb hown (hu _ u652) (hu _ u29) (hu _ u30) rfl (by rw [hml]; exact hl.1) rfl dX3_init_1 (Nat.le_of_ble_eq_true rfl) (Nat.le_of_ble_eq_true rfl) ?_
  refine W.eq (g2 := F0 mi 4 ls []) rfl ?_
  refine lv_aload_n hx hb dX3_init_4 rfl (lv_at hl 0 rfl) ?_
  refine lv_aload_n hx hb dX3_init_5 rfl (lv_at hl 1 rfl) ?_
  refine wr_putF (k := 0) hx hb hown hu hE ok4 hS hAa ho (by decide) u655 rfl rfl hnm rfl rfl (Nat.le_of_ble_eq_true rfl) dX3_init_6 (fun H1 locs1 ho hz oq hS => ?_)
  have oc : ∀ q : Nat, q < H0.size → q ≠ a → H1[q]? = H0[q]? := fun q h1 h2 => (oq q h2).trans (oc q h1 h2)
  have hC := cd_kept hC (fun k i hv => oq _ (hfr k i hv))
  refine lv_aload_n hx hb dX3_init_9 rfl (lv_at hl 0 rfl) ?_
  refine lv_iload_n hx hb dX3_init_10 rfl (lv_at hl 2 rfl) ?_
  refine wr_putF (k := 1) hx hb hown hu hE ok4 hS hAa ho (by decide) u657 rfl rfl hnm rfl rfl (Nat.le_of_ble_eq_true rfl) dX3_init_11 (fun H1 locs1 ho hz oq hS => ?_)
  have oc : ∀ q : Nat, q < H0.size → q ≠ a → H1[q]? = H0[q]? := fun q h1 h2 => (oq q h2).trans (oc q h1 h2)
  have hC := cd_kept hC (fun k i hv => oq _ (hfr k i hv))
  refine lv_aload_n hx hb dX3_init_14 rfl (lv_at hl 0 rfl) ?_
  refine lv_aload_n hx hb dX3_init_15 rfl (lv_at hl 1 rfl) ?_
  refine rd_get (k := 1) (v := .ref (L 21 (gA σ 17 n).toNatClampNeg)) hx hb hown hu hE ok7 (cd_not hC (okN_lt hX)) (by decide) u450 (fun _ h => h) rfl dX3_init_16 ?_
  refine rd_get (k := 3) (v := .int (gA σ 9 (gA σ 17 n))) hx hb hown hu hE ok10 (cd_per hC (okP_lt (one_ok hI hX))) (by decide) u304 (fun _ h => h) rfl dX3_init_19 ?_
  refine wr_putF (k := 2) hx hb hown hu hE ok4 hS hAa ho (by decide) u659 rfl rfl hnm rfl rfl (Nat.le_of_ble_eq_true rfl) dX3_init_22 (fun H1 locs1 ho hz oq hS => ?_)
  have oc : ∀ q : Nat, q < H0.size → q ≠ a → H1[q]? = H0[q]? := fun q h1 h2 => (oq q h2).trans (oc q h1 h2)
  have hC := cd_kept hC (fun k i hv => oq _ (hfr k i hv))
  refine lv_aload_n hx hb dX3_init_25 rfl (lv_at hl 0 rfl) ?_
  refine lv_aload_n hx hb dX3_init_26 rfl (lv_at hl 1 rfl) ?_
  refine rd_get (k := 2) (v := .ref (L 21 (gA σ 18 n).toNatClampNeg)) hx hb hown hu hE ok7 (cd_not hC (okN_lt hX)) (by decide) u453 (fun _ h => h) rfl dX3_init_27 ?_
  refine rd_get (k := 3) (v := .int (gA σ 9 (gA σ 18 n))) hx hb hown hu hE ok10 (cd_per hC (okP_lt (oth_ok hI hX))) (by decide) u304 (fun _ h => h) rfl dX3_init_30 ?_
  refine wr_putF (k := 3) hx hb hown hu hE ok4 hS hAa ho (by decide) u661 rfl rfl hnm rfl rfl (Nat.le_of_ble_eq_true rfl) dX3_init_33 (fun H1 locs1 ho hz oq hS => ?_)
  have oc : ∀ q : Nat, q < H0.size → q ≠ a → H1[q]? = H0[q]? := fun q h1 h2 => (oq q h2).trans (oc q h1 h2)
  have hC := cd_kept hC (fun k i hv => oq _ (hfr k i hv))
  refine lv_aload_n hx hb dX3_init_36 rfl (lv_at hl 0 rfl) ?_
  refine lv_aload_n hx hb dX3_init_37 rfl (lv_at hl 1 rfl) ?_
  refine rd_get (k := 7) (v := .int (gA σ 22 n)) hx hb hown hu hE ok7 (cd_not hC (okN_lt hX)) (by decide) u463 (fun _ h => h) rfl dX3_init_38 ?_
  refine cr_N (As := [.int (gA σ 22 n)]) (rest := [.ref a]) hx hb hml hown hu hE (x_hallOf l E (gA σ 22 n)) kX10_hallOf (by decide +kernel) (trivial) ⟨Nat.le_of_ble_eq_true rfl, Nat.le_of_ble_eq_true rfl⟩ rfl hl.1 rfl (Nat.le_of_ble_eq_true rfl) ⟨Nat.le_of_ble_eq_true rfl, Nat.le_of_ble_eq_true rfl⟩ dX3_init_41 ?_
  refine wr_putF (k := 4) hx hb hown hu hE ok4 hS hAa ho (by decide) u663 rfl rfl hnm rfl rfl (Nat.le_of_ble_eq_true rfl) dX3_init_44 (fun H1 locs1 ho hz oq hS => ?_)
  have oc : ∀ q : Nat, q < H0.size → q ≠ a → H1[q]? = H0[q]? := fun q h1 h2 => (oq q h2).trans (oc q h1 h2)
  have hC := cd_kept hC (fun k i hv => oq _ (hfr k i hv))
  refine lv_aload_n hx hb dX3_init_47 rfl (lv_at hl 0 rfl) ?_
  refine lv_aload_n hx hb dX3_init_48 rfl (lv_at hl 1 rfl) ?_
  refine rd_get (k := 7) (v := .int (gA σ 22 n)) hx hb hown hu hE ok7 (cd_not hC (okN_lt hX)) (by decide) u463 (fun _ h => h) rfl dX3_init_49 ?_
  refine cr_N (As := [.int (gA σ 22 n)]) (rest := [.ref a]) hx hb hml hown hu hE (x_regOf l E (gA σ 22 n)) kX10_registrarOf (by decide +kernel) (trivial) ⟨Nat.le_of_ble_eq_true rfl, Nat.le_of_ble_eq_true rfl⟩ rfl hl.1 rfl (Nat.le_of_ble_eq_true rfl) ⟨Nat.le_of_ble_eq_true rfl, Nat.le_of_ble_eq_true rfl⟩ dX3_init_52 ?_
  refine wr_putF (k := 5) hx hb hown hu hE ok4 hS hAa ho (by decide) u664 rfl rfl hnm rfl rfl (Nat.le_of_ble_eq_true rfl) dX3_init_55 (fun H1 locs1 ho hz oq hS => ?_)
  have oc : ∀ q : Nat, q < H0.size → q ≠ a → H1[q]? = H0[q]? := fun q h1 h2 => (oq q h2).trans (oc q h1 h2)
  have hC := cd_kept hC (fun k i hv => oq _ (hfr k i hv))
  exact ct_rv hx hb hr hlocks hS (⟨rfl, ho, oc⟩) (Nat.le_of_ble_eq_true rfl) (Nat.le_of_ble_eq_true rfl) dX3_init_58
