set_option maxHeartbeats 1000000 in
set_option maxRecDepth 20000 in
theorem i_Cal (l : Launch) (E : EV) (A : Nat → Prop) (H0 : Heap) (a : Nat) : Ct l E yX0_init cX0_init 1 none 1 20 1 313 A [.ref a] (fun H => H = H0 ∧ ob E a 1 df1 H ∧ A a) (fun v H => v = none ∧ (∃ b : Nat, H0.size ≤ b ∧ ob E a 1 [.ref b] H ∧ la E b 313 (fun _ => 0) H ∧ A b) ∧ ∀ q : Nat, q < H0.size → q ≠ a → H[q]? = H0[q]?) := by
  refine Ct.of (by decide +kernel) (Nat.le_of_ble_eq_true rfl) (fun pg ev s mi bel mth cd hx hb hr hml hown hu hlocks hnm hE hP hA hZ ls hl => ?_)
  have hl : lv_has ls 1 [(0, .ref a)] := hl
  have hS : va_S A s.heap s.heap [] := va_S.rf
  obtain ⟨h0, ho, hAa⟩ := hP
  have oc : ∀ q : Nat, q < H0.size → q ≠ a → s.heap[q]? = H0[q]? := fun q _ _ => by rw [h0]
  refine lv_aload_n hx hb dX0_init_0 rfl (lv_at hl 0 rfl) ?_
  refine W.objInit hx hb hown (hu _ u36) (hu _ u29) (hu _ u30) rfl (by rw [hml]; exact hl.1) rfl dX0_init_1 (Nat.le_of_ble_eq_true rfl) (Nat.le_of_ble_eq_true rfl) ?_
  refine W.eq (g2 := F0 mi 4 ls []) rfl ?_
  refine lv_aload_n hx hb dX0_init_4 rfl (lv_at hl 0 rfl) ?_
  refine lv_sipush (v := 313) hx hb dX0_init_5 (by decide) ?_
  obtain ⟨nb, hnb⟩ : ∃ z : Nat, z = s.heap.size := ⟨_, rfl⟩
  have hAnb : A nb := hA nb (by rw [hnb]; exact hS.1)
  have hsz := hS.1
  have hat := at_lt ho
  refine nw_newl (N := 313) hx hb hu hE u42 hS (by decide) rfl (by decide) (Nat.le_of_ble_eq_true rfl) (Nat.le_of_ble_eq_true rfl) dX0_init_8 (fun H1 hbnb hz oq hS => ?_)
  rw [← hnb] at hbnb hz oq hat  ⊢
  have ho := ho.kept (oq _ hat)
  have hlenb : H0.size ≤ nb := by rw [hnb, ← h0]; exact hsz
  have oc : ∀ q : Nat, q < H0.size → q ≠ a → H1[q]? = H0[q]? := fun q h1 h2 => (oq q (Nat.lt_of_lt_of_le h1 hlenb)).trans (oc q h1 h2)
  refine wr_putF (k := 0) hx hb hown hu hE ok1 hS hAa ho (by decide) u37 rfl rfl hnm rfl rfl (Nat.le_of_ble_eq_true rfl) dX0_init_10 (fun H1 locs1 ho hz oq hS => ?_)
  have oc : ∀ q : Nat, q < H0.size → q ≠ a → H1[q]? = H0[q]? := fun q h1 h2 => (oq q h2).trans (oc q h1 h2)
  have hbnb := hbnb.kept (oq _ (by omega))
  exact ct_rv hx hb hr hlocks hS (⟨rfl, ⟨nb, hlenb, ho, hbnb, hAnb⟩, oc⟩) (Nat.le_of_ble_eq_true rfl) (Nat.le_of_ble_eq_true rfl) dX0_init_13
set_option maxHeartbeats 1000000 in
set_option maxRecDepth 20000 in
theorem i_Pln (l : Launch) (E : EV) (A : Nat → Prop) (H0 : Heap) (a : Nat) : Ct l E yX2_init cX2_init 1 none 1 20 2 70 A [.ref a] (fun H => H = H0 ∧ ob E a 3 df3 H ∧ A a) (fun v H => v = none ∧ (∃ b c : Nat, H0.size ≤ b ∧ b < c ∧ ob E a 3 [.ref b, .ref c] H ∧ ia E b 10 (fun _ => 0) H ∧ ia E c 60 (fun _ => 0) H ∧ A b ∧ A c) ∧ ∀ q : Nat, q < H0.size → q ≠ a → H[q]? = H0[q]?) := by
  refine Ct.of (by decide +kernel) (Nat.le_of_ble_eq_true rfl) (fun pg ev s mi bel mth cd hx hb hr hml hown hu hlocks hnm hE hP hA hZ ls hl => ?_)
  have hl : lv_has ls 1 [(0, .ref a)] := hl
  have hS : va_S A s.heap s.heap [] := va_S.rf
  obtain ⟨h0, ho, hAa⟩ := hP
  have oc : ∀ q : Nat, q < H0.size → q ≠ a → s.heap[q]? = H0[q]? := fun q _ _ => by rw [h0]
  refine lv_aload_n hx hb dX2_init_0 rfl (lv_at hl 0 rfl) ?_
  refine W.objInit hx hb hown (hu _ u129) (hu _ u29) (hu _ u30) rfl (by rw [hml]; exact hl.1) rfl dX2_init_1 (Nat.le_of_ble_eq_true rfl) (Nat.le_of_ble_eq_true rfl) ?_
  refine W.eq (g2 := F0 mi 4 ls []) rfl ?_
  refine lv_aload_n hx hb dX2_init_4 rfl (lv_at hl 0 rfl) ?_
  refine lv_bipush (v := 10) hx hb dX2_init_5 (by decide) ?_
  obtain ⟨nb, hnb⟩ : ∃ z : Nat, z = s.heap.size := ⟨_, rfl⟩
  have hAnb : A nb := hA nb (by rw [hnb]; exact hS.1)
  have hsz := hS.1
  have hat := at_lt ho
  refine nw_newi (N := 10) hx hb hu hE u41 hS (by decide) rfl (by decide) (Nat.le_of_ble_eq_true rfl) (Nat.le_of_ble_eq_true rfl) dX2_init_7 (fun H1 hbnb hz oq hS => ?_)
  rw [← hnb] at hbnb hz oq hat  ⊢
  have ho := ho.kept (oq _ hat)
  have hlenb : H0.size ≤ nb := by rw [hnb, ← h0]; exact hsz
  have oc : ∀ q : Nat, q < H0.size → q ≠ a → H1[q]? = H0[q]? := fun q h1 h2 => (oq q (Nat.lt_of_lt_of_le h1 hlenb)).trans (oc q h1 h2)
  refine wr_putF (k := 0) hx hb hown hu hE ok3 hS hAa ho (by decide) u130 rfl rfl hnm rfl rfl (Nat.le_of_ble_eq_true rfl) dX2_init_9 (fun H1 locs1 ho hz oq hS => ?_)
  have oc : ∀ q : Nat, q < H0.size → q ≠ a → H1[q]? = H0[q]? := fun q h1 h2 => (oq q h2).trans (oc q h1 h2)
  have hbnb := hbnb.kept (oq _ (by omega))
  refine lv_aload_n hx hb dX2_init_12 rfl (lv_at hl 0 rfl) ?_
  refine lv_bipush (v := 60) hx hb dX2_init_13 (by decide) ?_
  obtain ⟨nc, hnc⟩ : ∃ z : Nat, z = H1.size := ⟨_, rfl⟩
  have hAnc : A nc := hA nc (by rw [hnc]; exact hS.1)
  have hsz := hS.1
  have hat := at_lt ho
  have lthbnbnc := at_lt hbnb
  refine nw_newi (N := 60) hx hb hu hE u41 hS (by decide) rfl (by decide) (Nat.le_of_ble_eq_true rfl) (Nat.le_of_ble_eq_true rfl) dX2_init_15 (fun H1 hbnc hz oq hS => ?_)
  rw [← hnc] at hbnc hz oq hat lthbnbnc ⊢
  have ho := ho.kept (oq _ hat)
  have hbnb := hbnb.kept (oq _ lthbnbnc)
  have hlenc : H0.size ≤ nc := by rw [hnc, ← h0]; exact hsz
  have oc : ∀ q : Nat, q < H0.size → q ≠ a → H1[q]? = H0[q]? := fun q h1 h2 => (oq q (Nat.lt_of_lt_of_le h1 hlenc)).trans (oc q h1 h2)
  refine wr_putF (k := 1) hx hb hown hu hE ok3 hS hAa ho (by decide) u131 rfl rfl hnm rfl rfl (Nat.le_of_ble_eq_true rfl) dX2_init_17 (fun H1 locs1 ho hz oq hS => ?_)
  have oc : ∀ q : Nat, q < H0.size → q ≠ a → H1[q]? = H0[q]? := fun q h1 h2 => (oq q h2).trans (oc q h1 h2)
  have hbnb := hbnb.kept (oq _ (by omega))
  have hbnc := hbnc.kept (oq _ (by omega))
  exact ct_rv hx hb hr hlocks hS (⟨rfl, ⟨nb, nc, hlenb, by omega, ho, hbnb, hbnc, hAnb, hAnc⟩, oc⟩) (Nat.le_of_ble_eq_true rfl) (Nat.le_of_ble_eq_true rfl) dX2_init_20
set_option maxHeartbeats 1000000 in
set_option maxRecDepth 20000 in
theorem i_Bok (l : Launch) (E : EV) (A : Nat → Prop) (H0 : Heap) (a : Nat) : Ct l E yX5_init cX5_init 1 none 4 80 2 11 A [.ref a] (fun H => H = H0 ∧ ob E a 6 df6 H ∧ A a) (fun v H => v = none ∧ (∃ b c : Nat, H0.size ≤ b ∧ b < c ∧ ob E a 6 [.ref b, .ref c] H ∧ ob E b 0 [.int 0, .ref (E.2 11), .int 0] H ∧ ob E c 5 [.int (-1), .int (-1), .int 0, .int 0, .int 0, .int 0, .int 1, .int 0] H ∧ A b ∧ A c) ∧ ∀ q : Nat, q < H0.size → q ≠ a → H[q]? = H0[q]?) := by
  refine Ct.of (by decide +kernel) (Nat.le_of_ble_eq_true rfl) (fun pg ev s mi bel mth cd hx hb hr hml hown hu hlocks hnm hE hP hA hZ ls hl => ?_)
  have hl : lv_has ls 1 [(0, .ref a)] := hl
  have hS : va_S A s.heap s.heap [] := va_S.rf
  obtain ⟨h0, ho, hAa⟩ := hP
  have oc : ∀ q : Nat, q < H0.size → q ≠ a → s.heap[q]? = H0[q]? := fun q _ _ => by rw [h0]
  refine lv_aload_n hx hb dX5_init_0 rfl (lv_at hl 0 rfl) ?_
  refine W.objInit hx hb hown (hu _ u48) (hu _ u29) (hu _ u30) rfl (by rw [hml]; exact hl.1) rfl dX5_init_1 (Nat.le_of_ble_eq_true rfl) (Nat.le_of_ble_eq_true rfl) ?_
  refine W.eq (g2 := F0 mi 4 ls []) rfl ?_
  refine lv_aload_n hx hb dX5_init_4 rfl (lv_at hl 0 rfl) ?_
  obtain ⟨nb, hnb⟩ : ∃ z : Nat, z = s.heap.size := ⟨_, rfl⟩
  have hAnb : A nb := hA nb (by rw [hnb]; exact hS.1)
  have hsz := hS.1
  have hat := at_lt ho
  refine nw_new (fs := df0) hx hb hown hu hE ok0 hS u49 dfl0 (Nat.le_of_ble_eq_true rfl) (Nat.le_of_ble_eq_true rfl) dX5_init_5 (fun H1 hbnb hz oq hS => ?_)
  rw [← hnb] at hbnb hz oq hat  ⊢
  have ho := ho.kept (oq _ hat)
  have hlenb : H0.size ≤ nb := by rw [hnb, ← h0]; exact hsz
  have oc : ∀ q : Nat, q < H0.size → q ≠ a → H1[q]? = H0[q]? := fun q h1 h2 => (oq q (Nat.lt_of_lt_of_le h1 hlenb)).trans (oc q h1 h2)
  refine lv_dup hx hb dX5_init_8 rfl ?_
  refine ct_I (As := []) (rest := [.ref nb, .ref a]) hx hb hml hown hu hE hZ hS (fun _ h => h) (fun q h => hA q (Nat.le_trans hS.1 h)) (c_alI l E A H1 nb) kJx4a65c_init_da8c8 u51 (⟨rfl, hbnb, hAnb⟩) ⟨Nat.le_of_ble_eq_true rfl, Nat.le_of_ble_eq_true rfl⟩ rfl hl.1 rfl (Nat.le_of_ble_eq_true rfl) ⟨Nat.le_of_ble_eq_true rfl, Nat.le_of_ble_eq_true rfl⟩ dX5_init_9 (fun v1 H1 locs1 hR hS hz hk => ?_)
  obtain ⟨rfl, hbnb, oq⟩ := hR
  have ho := ho.kept (oq _ (Nat.ne_of_lt hat))
  have oc : ∀ q : Nat, q < H0.size → q ≠ a → H1[q]? = H0[q]? := fun q h1 h2 => (oq q (by omega)).trans (oc q h1 h2)
  refine wr_putF (k := 0) hx hb hown hu hE ok6 hS hAa ho (by decide) u115 rfl rfl hnm rfl rfl (Nat.le_of_ble_eq_true rfl) dX5_init_12 (fun H1 locs1 ho hz oq hS => ?_)
  have oc : ∀ q : Nat, q < H0.size → q ≠ a → H1[q]? = H0[q]? := fun q h1 h2 => (oq q h2).trans (oc q h1 h2)
  have hbnb := hbnb.kept (oq _ (by omega))
  refine lv_aload_n hx hb dX5_init_15 rfl (lv_at hl 0 rfl) ?_
  obtain ⟨nc, hnc⟩ : ∃ z : Nat, z = H1.size := ⟨_, rfl⟩
  have hAnc : A nc := hA nc (by rw [hnc]; exact hS.1)
  have hsz := hS.1
  have hat := at_lt ho
  have lthbnbnc := at_lt hbnb
  refine nw_new (fs := df5) hx hb hown hu hE ok5 hS u75 dfl5 (Nat.le_of_ble_eq_true rfl) (Nat.le_of_ble_eq_true rfl) dX5_init_16 (fun H1 hbnc hz oq hS => ?_)
  rw [← hnc] at hbnc hz oq hat lthbnbnc ⊢
  have ho := ho.kept (oq _ hat)
  have hbnb := hbnb.kept (oq _ lthbnbnc)
  have hlenc : H0.size ≤ nc := by rw [hnc, ← h0]; exact hsz
  have oc : ∀ q : Nat, q < H0.size → q ≠ a → H1[q]? = H0[q]? := fun q h1 h2 => (oq q (Nat.lt_of_lt_of_le h1 hlenc)).trans (oc q h1 h2)
  refine lv_dup hx hb dX5_init_19 rfl ?_
  refine lv_iconst (v := (-1)) hx hb dX5_init_20 (by decide) ?_
  refine lv_iconst (v := (-1)) hx hb dX5_init_21 (by decide) ?_
  refine lv_iconst (v := 1) hx hb dX5_init_22 (by decide) ?_
  refine lv_iconst (v := 0) hx hb dX5_init_23 (by decide) ?_
  refine ct_I (As := [.int (-1), .int (-1), .int 1, .int 0]) (rest := [.ref nc, .ref a]) hx hb hml hown hu hE hZ hS (fun _ h => h) (fun q h => hA q (Nat.le_trans hS.1 h)) (i_Law l E A H1 nc (-1) (-1) 1 0) kX4_init u77 (⟨rfl, hbnc, hAnc⟩) ⟨Nat.le_of_ble_eq_true rfl, Nat.le_of_ble_eq_true rfl⟩ rfl hl.1 rfl (Nat.le_of_ble_eq_true rfl) ⟨Nat.le_of_ble_eq_true rfl, Nat.le_of_ble_eq_true rfl⟩ dX5_init_24 (fun v2 H1 locs1 hR hS hz hk => ?_)
  obtain ⟨rfl, hbnc, oq⟩ := hR
  have ho := ho.kept (oq _ (Nat.lt_trans hat (by omega)) (Nat.ne_of_lt hat))
  have oc : ∀ q : Nat, q < H0.size → q ≠ a → H1[q]? = H0[q]? := fun q h1 h2 => (oq q (by omega) (by omega)).trans (oc q h1 h2)
  have hbnb := hbnb.kept (oq _ (by have := at_lt hbnb; omega) (by omega))
  refine wr_putF (k := 1) hx hb hown hu hE ok6 hS hAa ho (by decide) u116 rfl rfl hnm rfl rfl (Nat.le_of_ble_eq_true rfl) dX5_init_27 (fun H1 locs1 ho hz oq hS => ?_)
  have oc : ∀ q : Nat, q < H0.size → q ≠ a → H1[q]? = H0[q]? := fun q h1 h2 => (oq q h2).trans (oc q h1 h2)
  have hbnb := hbnb.kept (oq _ (by omega))
  have hbnc := hbnc.kept (oq _ (by omega))
  exact ct_rv hx hb hr hlocks hS (⟨rfl, ⟨nb, nc, hlenb, by omega, ho, hbnb, (by have h := hbnc; rw [show (1 : Int32) / 1000000 = 0 by decide, show rm ((1 : Int32) / 100000) 10 = 0 by decide, show rm ((1 : Int32) / 10000) 10 = 0 by decide, show rm ((1 : Int32) / 1000) 10 = 0 by decide, show rm (1 : Int32) 1000 = 1 by decide] at h; exact h), hAnb, hAnc⟩, oc⟩) (Nat.le_of_ble_eq_true rfl) (Nat.le_of_ble_eq_true rfl) dX5_init_30
set_option maxHeartbeats 1000000 in
set_option maxRecDepth 20000 in
theorem i_Reg (l : Launch) (E : EV) (A : Nat → Prop) (H0 : Heap) (a : Nat) : Ct l E yX10_init cX10_init 1 none 5 100 14 500 A [.ref a] (fun H => H = H0 ∧ ob E a 11 df11 H ∧ A a) (fun v H => v = none ∧ (∃ L : Nat → Nat → Nat, L 0 0 = a ∧ Cd E A s0 L H) ∧ ∀ q : Nat, q < H0.size → q ≠ a → H[q]? = H0[q]?) := by
  refine Ct.of (by decide +kernel) (Nat.le_of_ble_eq_true rfl) (fun pg ev s mi bel mth cd hx hb hr hml hown hu hlocks hnm hE hP hA hZ ls hl => ?_)
  have hl : lv_has ls 1 [(0, .ref a)] := hl
  have hS : va_S A s.heap s.heap [] := va_S.rf
  obtain ⟨h0, ho, hAa⟩ := hP
  have oc : ∀ q : Nat, q < H0.size → q ≠ a → s.heap[q]? = H0[q]? := fun q _ _ => by rw [h0]
  refine lv_aload_n hx hb dX10_init_0 rfl (lv_at hl 0 rfl) ?_
  refine W.objInit hx hb hown (hu _ u28) (hu _ u29) (hu _ u30) rfl (by rw [hml]; exact hl.1) rfl dX10_init_1 (Nat.le_of_ble_eq_true rfl) (Nat.le_of_ble_eq_true rfl) ?_
  refine W.eq (g2 := F0 mi 4 ls []) rfl ?_
  refine lv_aload_n hx hb dX10_init_4 rfl (lv_at hl 0 rfl) ?_
  refine lv_iconst (v := 0) hx hb dX10_init_5 (by decide) ?_
  refine wr_put (k := 0) hx hb hown hu hE ok11 hS hAa ho (by decide) u137 (Or.inl rfl) rfl rfl rfl (Nat.le_of_ble_eq_true rfl) dX10_init_6 (fun H1 locs1 ho hz oq hS => ?_)
  have oc : ∀ q : Nat, q < H0.size → q ≠ a → H1[q]? = H0[q]? := fun q h1 h2 => (oq q h2).trans (oc q h1 h2)
  refine lv_aload_n hx hb dX10_init_9 rfl (lv_at hl 0 rfl) ?_
  refine lv_iconst (v := 0) hx hb dX10_init_10 (by decide) ?_
  refine wr_put (k := 1) hx hb hown hu hE ok11 hS hAa ho (by decide) u138 (Or.inl rfl) rfl rfl rfl (Nat.le_of_ble_eq_true rfl) dX10_init_11 (fun H1 locs1 ho hz oq hS => ?_)
  have oc : ∀ q : Nat, q < H0.size → q ≠ a → H1[q]? = H0[q]? := fun q h1 h2 => (oq q h2).trans (oc q h1 h2)
  refine lv_aload_n hx hb dX10_init_14 rfl (lv_at hl 0 rfl) ?_
  refine lv_iconst (v := 0) hx hb dX10_init_15 (by decide) ?_
  refine wr_put (k := 2) hx hb hown hu hE ok11 hS hAa ho (by decide) u139 (Or.inl rfl) rfl rfl rfl (Nat.le_of_ble_eq_true rfl) dX10_init_16 (fun H1 locs1 ho hz oq hS => ?_)
  have oc : ∀ q : Nat, q < H0.size → q ≠ a → H1[q]? = H0[q]? := fun q h1 h2 => (oq q h2).trans (oc q h1 h2)
  refine lv_aload_n hx hb dX10_init_19 rfl (lv_at hl 0 rfl) ?_
  refine lv_bipush (v := 6) hx hb dX10_init_20 (by decide) ?_
  obtain ⟨n1, hn1⟩ : ∃ z : Nat, z = H1.size := ⟨_, rfl⟩
  have hAn1 : A n1 := hA n1 (by rw [hn1]; exact hS.1)
  have hsz := hS.1
  have hat := at_lt ho
  refine nw_newi (N := 6) hx hb hu hE u41 hS (by decide) rfl (by decide) (Nat.le_of_ble_eq_true rfl) (Nat.le_of_ble_eq_true rfl) dX10_init_22 (fun H1 hbn1 hz oq hS => ?_)
  rw [← hn1] at hbn1 hz oq hat  ⊢
  have ho := ho.kept (oq _ hat)
  have hlen1 : H0.size ≤ n1 := by rw [hn1, ← h0]; exact hsz
  have oc : ∀ q : Nat, q < H0.size → q ≠ a → H1[q]? = H0[q]? := fun q h1 h2 => (oq q (Nat.lt_of_lt_of_le h1 hlen1)).trans (oc q h1 h2)
  refine wr_putF (k := 3) hx hb hown hu hE ok11 hS hAa ho (by decide) u140 rfl rfl hnm rfl rfl (Nat.le_of_ble_eq_true rfl) dX10_init_24 (fun H1 locs1 ho hz oq hS => ?_)
  have oc : ∀ q : Nat, q < H0.size → q ≠ a → H1[q]? = H0[q]? := fun q h1 h2 => (oq q h2).trans (oc q h1 h2)
  have hbn1 := hbn1.kept (oq _ (by omega))
  refine lv_aload_n hx hb dX10_init_27 rfl (lv_at hl 0 rfl) ?_
  obtain ⟨n2, hn2⟩ : ∃ z : Nat, z = H1.size := ⟨_, rfl⟩
  have hAn2 : A n2 := hA n2 (by rw [hn2]; exact hS.1)
  have hsz := hS.1
  have hat := at_lt ho
  have lthbn1n2 := at_lt hbn1
  refine nw_new (fs := df1) hx hb hown hu hE ok1 hS u31 dfl1 (Nat.le_of_ble_eq_true rfl) (Nat.le_of_ble_eq_true rfl) dX10_init_28 (fun H1 hbn2 hz oq hS => ?_)
  rw [← hn2] at hbn2 hz oq hat lthbn1n2 ⊢
  have ho := ho.kept (oq _ hat)
  have hbn1 := hbn1.kept (oq _ lthbn1n2)
  have hlen2 : H0.size ≤ n2 := by rw [hn2, ← h0]; exact hsz
  have oc : ∀ q : Nat, q < H0.size → q ≠ a → H1[q]? = H0[q]? := fun q h1 h2 => (oq q (Nat.lt_of_lt_of_le h1 hlen2)).trans (oc q h1 h2)
  refine lv_dup hx hb dX10_init_31 rfl ?_
  refine ct_I (As := []) (rest := [.ref n2, .ref a]) hx hb hml hown hu hE hZ hS (fun _ h => h) (fun q h => hA q (Nat.le_trans hS.1 h)) (i_Cal l E A H1 n2) kX0_init u33 (⟨rfl, hbn2, hAn2⟩) ⟨Nat.le_of_ble_eq_true rfl, Nat.le_of_ble_eq_true rfl⟩ rfl hl.1 rfl (Nat.le_of_ble_eq_true rfl) ⟨Nat.le_of_ble_eq_true rfl, Nat.le_of_ble_eq_true rfl⟩ dX10_init_32 (fun v1 H1 locs1 hR hS hz hk => ?_)
  obtain ⟨rfl, ⟨n3, hlen3, hbn2, hbn3, hAn3⟩, oq⟩ := hR
  have ho := ho.kept (oq _ (by omega) (Nat.ne_of_lt hat))
  have oc : ∀ q : Nat, q < H0.size → q ≠ a → H1[q]? = H0[q]? := fun q h1 h2 => (oq q (by omega) (by omega)).trans (oc q h1 h2)
  have hbn1 := hbn1.kept (oq _ (by omega) (by omega))
  refine wr_putF (k := 4) hx hb hown hu hE ok11 hS hAa ho (by decide) u141 rfl rfl hnm rfl rfl (Nat.le_of_ble_eq_true rfl) dX10_init_35 (fun H1 locs1 ho hz oq hS => ?_)
  have oc : ∀ q : Nat, q < H0.size → q ≠ a → H1[q]? = H0[q]? := fun q h1 h2 => (oq q h2).trans (oc q h1 h2)
  have hbn1 := hbn1.kept (oq _ (by omega))
  have hbn2 := hbn2.kept (oq _ (by omega))
  have hbn3 := hbn3.kept (oq _ (by omega))
  refine lv_aload_n hx hb dX10_init_38 rfl (lv_at hl 0 rfl) ?_
  obtain ⟨n4, hn4⟩ : ∃ z : Nat, z = H1.size := ⟨_, rfl⟩
  have hAn4 : A n4 := hA n4 (by rw [hn4]; exact hS.1)
  have hsz := hS.1
  have hat := at_lt ho
  have lthbn1n4 := at_lt hbn1
  have lthbn2n4 := at_lt hbn2
  have lthbn3n4 := at_lt hbn3
  refine nw_new (fs := df6) hx hb hown hu hE ok6 hS u43 dfl6 (Nat.le_of_ble_eq_true rfl) (Nat.le_of_ble_eq_true rfl) dX10_init_39 (fun H1 hbn4 hz oq hS => ?_)
  rw [← hn4] at hbn4 hz oq hat lthbn1n4 lthbn2n4 lthbn3n4 ⊢
  have ho := ho.kept (oq _ hat)
  have hbn1 := hbn1.kept (oq _ lthbn1n4)
  have hbn2 := hbn2.kept (oq _ lthbn2n4)
  have hbn3 := hbn3.kept (oq _ lthbn3n4)
  have hlen4 : H0.size ≤ n4 := by rw [hn4, ← h0]; exact hsz
  have oc : ∀ q : Nat, q < H0.size → q ≠ a → H1[q]? = H0[q]? := fun q h1 h2 => (oq q (Nat.lt_of_lt_of_le h1 hlen4)).trans (oc q h1 h2)
  refine lv_dup hx hb dX10_init_42 rfl ?_
  refine ct_I (As := []) (rest := [.ref n4, .ref a]) hx hb hml hown hu hE hZ hS (fun _ h => h) (fun q h => hA q (Nat.le_trans hS.1 h)) (i_Bok l E A H1 n4) kX5_init u45 (⟨rfl, hbn4, hAn4⟩) ⟨Nat.le_of_ble_eq_true rfl, Nat.le_of_ble_eq_true rfl⟩ rfl hl.1 rfl (Nat.le_of_ble_eq_true rfl) ⟨Nat.le_of_ble_eq_true rfl, Nat.le_of_ble_eq_true rfl⟩ dX10_init_43 (fun v2 H1 locs1 hR hS hz hk => ?_)
  obtain ⟨rfl, ⟨c0, n5, hlec0, hlen5, hbn4, hbc0, hbn5, hAc0, hAn5⟩, oq⟩ := hR
  have ho := ho.kept (oq _ (by omega) (Nat.ne_of_lt hat))
  have oc : ∀ q : Nat, q < H0.size → q ≠ a → H1[q]? = H0[q]? := fun q h1 h2 => (oq q (by omega) (by omega)).trans (oc q h1 h2)
  have hbn1 := hbn1.kept (oq _ (by omega) (by omega))
  have hbn2 := hbn2.kept (oq _ (by omega) (by omega))
  have hbn3 := hbn3.kept (oq _ (by omega) (by omega))
  refine wr_putF (k := 5) hx hb hown hu hE ok11 hS hAa ho (by decide) u142 rfl rfl hnm rfl rfl (Nat.le_of_ble_eq_true rfl) dX10_init_46 (fun H1 locs1 ho hz oq hS => ?_)
  have oc : ∀ q : Nat, q < H0.size → q ≠ a → H1[q]? = H0[q]? := fun q h1 h2 => (oq q h2).trans (oc q h1 h2)
  have hbn1 := hbn1.kept (oq _ (by omega))
  have hbn2 := hbn2.kept (oq _ (by omega))
  have hbn3 := hbn3.kept (oq _ (by omega))
  have hbn4 := hbn4.kept (oq _ (by omega))
  have hbc0 := hbc0.kept (oq _ (by omega))
  have hbn5 := hbn5.kept (oq _ (by omega))
  refine lv_aload_n hx hb dX10_init_49 rfl (lv_at hl 0 rfl) ?_
  obtain ⟨c1, hc1⟩ : ∃ z : Nat, z = H1.size := ⟨_, rfl⟩
  have hAc1 : A c1 := hA c1 (by rw [hc1]; exact hS.1)
  have hsz := hS.1
  have hat := at_lt ho
  have lthbn1c1 := at_lt hbn1
  have lthbn2c1 := at_lt hbn2
  have lthbn3c1 := at_lt hbn3
  have lthbn4c1 := at_lt hbn4
  have lthbc0c1 := at_lt hbc0
  have lthbn5c1 := at_lt hbn5
  refine nw_new (fs := df0) hx hb hown hu hE ok0 hS u122 dfl0 (Nat.le_of_ble_eq_true rfl) (Nat.le_of_ble_eq_true rfl) dX10_init_50 (fun H1 hbc1 hz oq hS => ?_)
  rw [← hc1] at hbc1 hz oq hat lthbn1c1 lthbn2c1 lthbn3c1 lthbn4c1 lthbc0c1 lthbn5c1 ⊢
  have ho := ho.kept (oq _ hat)
  have hbn1 := hbn1.kept (oq _ lthbn1c1)
  have hbn2 := hbn2.kept (oq _ lthbn2c1)
  have hbn3 := hbn3.kept (oq _ lthbn3c1)
  have hbn4 := hbn4.kept (oq _ lthbn4c1)
  have hbc0 := hbc0.kept (oq _ lthbc0c1)
  have hbn5 := hbn5.kept (oq _ lthbn5c1)
  have hlec1 : H0.size ≤ c1 := by rw [hc1, ← h0]; exact hsz
  have oc : ∀ q : Nat, q < H0.size → q ≠ a → H1[q]? = H0[q]? := fun q h1 h2 => (oq q (Nat.lt_of_lt_of_le h1 hlec1)).trans (oc q h1 h2)
  refine lv_dup hx hb dX10_init_53 rfl ?_
  refine ct_I (As := []) (rest := [.ref c1, .ref a]) hx hb hml hown hu hE hZ hS (fun _ h => h) (fun q h => hA q (Nat.le_trans hS.1 h)) (c_alI l E A H1 c1) kJx4a65c_init_da8c8 u123 (⟨rfl, hbc1, hAc1⟩) ⟨Nat.le_of_ble_eq_true rfl, Nat.le_of_ble_eq_true rfl⟩ rfl hl.1 rfl (Nat.le_of_ble_eq_true rfl) ⟨Nat.le_of_ble_eq_true rfl, Nat.le_of_ble_eq_true rfl⟩ dX10_init_54 (fun v3 H1 locs1 hR hS hz hk => ?_)
  obtain ⟨rfl, hbc1, oq⟩ := hR
  have ho := ho.kept (oq _ (Nat.ne_of_lt hat))
  have oc : ∀ q : Nat, q < H0.size → q ≠ a → H1[q]? = H0[q]? := fun q h1 h2 => (oq q (by omega)).trans (oc q h1 h2)
  have hbn1 := hbn1.kept (oq _ (by have := at_lt hbn1; omega))
  have hbn2 := hbn2.kept (oq _ (by have := at_lt hbn2; omega))
  have hbn3 := hbn3.kept (oq _ (by have := at_lt hbn3; omega))
  have hbn4 := hbn4.kept (oq _ (by have := at_lt hbn4; omega))
  have hbc0 := hbc0.kept (oq _ (by have := at_lt hbc0; omega))
  have hbn5 := hbn5.kept (oq _ (by have := at_lt hbn5; omega))
  refine wr_putF (k := 6) hx hb hown hu hE ok11 hS hAa ho (by decide) u143 rfl rfl hnm rfl rfl (Nat.le_of_ble_eq_true rfl) dX10_init_57 (fun H1 locs1 ho hz oq hS => ?_)
  have oc : ∀ q : Nat, q < H0.size → q ≠ a → H1[q]? = H0[q]? := fun q h1 h2 => (oq q h2).trans (oc q h1 h2)
  have hbn1 := hbn1.kept (oq _ (by omega))
  have hbn2 := hbn2.kept (oq _ (by omega))
  have hbn3 := hbn3.kept (oq _ (by omega))
  have hbn4 := hbn4.kept (oq _ (by omega))
  have hbc0 := hbc0.kept (oq _ (by omega))
  have hbn5 := hbn5.kept (oq _ (by omega))
  have hbc1 := hbc1.kept (oq _ (by omega))
  refine lv_aload_n hx hb dX10_init_60 rfl (lv_at hl 0 rfl) ?_
  obtain ⟨c2, hc2⟩ : ∃ z : Nat, z = H1.size := ⟨_, rfl⟩
  have hAc2 : A c2 := hA c2 (by rw [hc2]; exact hS.1)
  have hsz := hS.1
  have hat := at_lt ho
  have lthbn1c2 := at_lt hbn1
  have lthbn2c2 := at_lt hbn2
  have lthbn3c2 := at_lt hbn3
  have lthbn4c2 := at_lt hbn4
  have lthbc0c2 := at_lt hbc0
  have lthbn5c2 := at_lt hbn5
  have lthbc1c2 := at_lt hbc1
  refine nw_new (fs := df0) hx hb hown hu hE ok0 hS u122 dfl0 (Nat.le_of_ble_eq_true rfl) (Nat.le_of_ble_eq_true rfl) dX10_init_61 (fun H1 hbc2 hz oq hS => ?_)
  rw [← hc2] at hbc2 hz oq hat lthbn1c2 lthbn2c2 lthbn3c2 lthbn4c2 lthbc0c2 lthbn5c2 lthbc1c2 ⊢
  have ho := ho.kept (oq _ hat)
  have hbn1 := hbn1.kept (oq _ lthbn1c2)
  have hbn2 := hbn2.kept (oq _ lthbn2c2)
  have hbn3 := hbn3.kept (oq _ lthbn3c2)
  have hbn4 := hbn4.kept (oq _ lthbn4c2)
  have hbc0 := hbc0.kept (oq _ lthbc0c2)
  have hbn5 := hbn5.kept (oq _ lthbn5c2)
  have hbc1 := hbc1.kept (oq _ lthbc1c2)
  have hlec2 : H0.size ≤ c2 := by rw [hc2, ← h0]; exact hsz
  have oc : ∀ q : Nat, q < H0.size → q ≠ a → H1[q]? = H0[q]? := fun q h1 h2 => (oq q (Nat.lt_of_lt_of_le h1 hlec2)).trans (oc q h1 h2)
  refine lv_dup hx hb dX10_init_64 rfl ?_
  refine ct_I (As := []) (rest := [.ref c2, .ref a]) hx hb hml hown hu hE hZ hS (fun _ h => h) (fun q h => hA q (Nat.le_trans hS.1 h)) (c_alI l E A H1 c2) kJx4a65c_init_da8c8 u123 (⟨rfl, hbc2, hAc2⟩) ⟨Nat.le_of_ble_eq_true rfl, Nat.le_of_ble_eq_true rfl⟩ rfl hl.1 rfl (Nat.le_of_ble_eq_true rfl) ⟨Nat.le_of_ble_eq_true rfl, Nat.le_of_ble_eq_true rfl⟩ dX10_init_65 (fun v4 H1 locs1 hR hS hz hk => ?_)
  obtain ⟨rfl, hbc2, oq⟩ := hR
  have ho := ho.kept (oq _ (Nat.ne_of_lt hat))
  have oc : ∀ q : Nat, q < H0.size → q ≠ a → H1[q]? = H0[q]? := fun q h1 h2 => (oq q (by omega)).trans (oc q h1 h2)
  have hbn1 := hbn1.kept (oq _ (by have := at_lt hbn1; omega))
  have hbn2 := hbn2.kept (oq _ (by have := at_lt hbn2; omega))
  have hbn3 := hbn3.kept (oq _ (by have := at_lt hbn3; omega))
  have hbn4 := hbn4.kept (oq _ (by have := at_lt hbn4; omega))
  have hbc0 := hbc0.kept (oq _ (by have := at_lt hbc0; omega))
  have hbn5 := hbn5.kept (oq _ (by have := at_lt hbn5; omega))
  have hbc1 := hbc1.kept (oq _ (by have := at_lt hbc1; omega))
  refine wr_putF (k := 7) hx hb hown hu hE ok11 hS hAa ho (by decide) u144 rfl rfl hnm rfl rfl (Nat.le_of_ble_eq_true rfl) dX10_init_68 (fun H1 locs1 ho hz oq hS => ?_)
  have oc : ∀ q : Nat, q < H0.size → q ≠ a → H1[q]? = H0[q]? := fun q h1 h2 => (oq q h2).trans (oc q h1 h2)
  have hbn1 := hbn1.kept (oq _ (by omega))
  have hbn2 := hbn2.kept (oq _ (by omega))
  have hbn3 := hbn3.kept (oq _ (by omega))
  have hbn4 := hbn4.kept (oq _ (by omega))
  have hbc0 := hbc0.kept (oq _ (by omega))
  have hbn5 := hbn5.kept (oq _ (by omega))
  have hbc1 := hbc1.kept (oq _ (by omega))
  have hbc2 := hbc2.kept (oq _ (by omega))
  refine lv_aload_n hx hb dX10_init_71 rfl (lv_at hl 0 rfl) ?_
  obtain ⟨c3, hc3⟩ : ∃ z : Nat, z = H1.size := ⟨_, rfl⟩
  have hAc3 : A c3 := hA c3 (by rw [hc3]; exact hS.1)
  have hsz := hS.1
  have hat := at_lt ho
  have lthbn1c3 := at_lt hbn1
  have lthbn2c3 := at_lt hbn2
  have lthbn3c3 := at_lt hbn3
  have lthbn4c3 := at_lt hbn4
  have lthbc0c3 := at_lt hbc0
  have lthbn5c3 := at_lt hbn5
  have lthbc1c3 := at_lt hbc1
  have lthbc2c3 := at_lt hbc2
  refine nw_new (fs := df0) hx hb hown hu hE ok0 hS u122 dfl0 (Nat.le_of_ble_eq_true rfl) (Nat.le_of_ble_eq_true rfl) dX10_init_72 (fun H1 hbc3 hz oq hS => ?_)
  rw [← hc3] at hbc3 hz oq hat lthbn1c3 lthbn2c3 lthbn3c3 lthbn4c3 lthbc0c3 lthbn5c3 lthbc1c3 lthbc2c3 ⊢
  have ho := ho.kept (oq _ hat)
  have hbn1 := hbn1.kept (oq _ lthbn1c3)
  have hbn2 := hbn2.kept (oq _ lthbn2c3)
  have hbn3 := hbn3.kept (oq _ lthbn3c3)
  have hbn4 := hbn4.kept (oq _ lthbn4c3)
  have hbc0 := hbc0.kept (oq _ lthbc0c3)
  have hbn5 := hbn5.kept (oq _ lthbn5c3)
  have hbc1 := hbc1.kept (oq _ lthbc1c3)
  have hbc2 := hbc2.kept (oq _ lthbc2c3)
  have hlec3 : H0.size ≤ c3 := by rw [hc3, ← h0]; exact hsz
  have oc : ∀ q : Nat, q < H0.size → q ≠ a → H1[q]? = H0[q]? := fun q h1 h2 => (oq q (Nat.lt_of_lt_of_le h1 hlec3)).trans (oc q h1 h2)
  refine lv_dup hx hb dX10_init_75 rfl ?_
  refine ct_I (As := []) (rest := [.ref c3, .ref a]) hx hb hml hown hu hE hZ hS (fun _ h => h) (fun q h => hA q (Nat.le_trans hS.1 h)) (c_alI l E A H1 c3) kJx4a65c_init_da8c8 u123 (⟨rfl, hbc3, hAc3⟩) ⟨Nat.le_of_ble_eq_true rfl, Nat.le_of_ble_eq_true rfl⟩ rfl hl.1 rfl (Nat.le_of_ble_eq_true rfl) ⟨Nat.le_of_ble_eq_true rfl, Nat.le_of_ble_eq_true rfl⟩ dX10_init_76 (fun v5 H1 locs1 hR hS hz hk => ?_)
  obtain ⟨rfl, hbc3, oq⟩ := hR
  have ho := ho.kept (oq _ (Nat.ne_of_lt hat))
  have oc : ∀ q : Nat, q < H0.size → q ≠ a → H1[q]? = H0[q]? := fun q h1 h2 => (oq q (by omega)).trans (oc q h1 h2)
  have hbn1 := hbn1.kept (oq _ (by have := at_lt hbn1; omega))
  have hbn2 := hbn2.kept (oq _ (by have := at_lt hbn2; omega))
  have hbn3 := hbn3.kept (oq _ (by have := at_lt hbn3; omega))
  have hbn4 := hbn4.kept (oq _ (by have := at_lt hbn4; omega))
  have hbc0 := hbc0.kept (oq _ (by have := at_lt hbc0; omega))
  have hbn5 := hbn5.kept (oq _ (by have := at_lt hbn5; omega))
  have hbc1 := hbc1.kept (oq _ (by have := at_lt hbc1; omega))
  have hbc2 := hbc2.kept (oq _ (by have := at_lt hbc2; omega))
  refine wr_putF (k := 8) hx hb hown hu hE ok11 hS hAa ho (by decide) u145 rfl rfl hnm rfl rfl (Nat.le_of_ble_eq_true rfl) dX10_init_79 (fun H1 locs1 ho hz oq hS => ?_)
  have oc : ∀ q : Nat, q < H0.size → q ≠ a → H1[q]? = H0[q]? := fun q h1 h2 => (oq q h2).trans (oc q h1 h2)
  have hbn1 := hbn1.kept (oq _ (by omega))
  have hbn2 := hbn2.kept (oq _ (by omega))
  have hbn3 := hbn3.kept (oq _ (by omega))
  have hbn4 := hbn4.kept (oq _ (by omega))
  have hbc0 := hbc0.kept (oq _ (by omega))
  have hbn5 := hbn5.kept (oq _ (by omega))
  have hbc1 := hbc1.kept (oq _ (by omega))
  have hbc2 := hbc2.kept (oq _ (by omega))
  have hbc3 := hbc3.kept (oq _ (by omega))
  refine lv_aload_n hx hb dX10_init_82 rfl (lv_at hl 0 rfl) ?_
  obtain ⟨c4, hc4⟩ : ∃ z : Nat, z = H1.size := ⟨_, rfl⟩
  have hAc4 : A c4 := hA c4 (by rw [hc4]; exact hS.1)
  have hsz := hS.1
  have hat := at_lt ho
  have lthbn1c4 := at_lt hbn1
  have lthbn2c4 := at_lt hbn2
  have lthbn3c4 := at_lt hbn3
  have lthbn4c4 := at_lt hbn4
  have lthbc0c4 := at_lt hbc0
  have lthbn5c4 := at_lt hbn5
  have lthbc1c4 := at_lt hbc1
  have lthbc2c4 := at_lt hbc2
  have lthbc3c4 := at_lt hbc3
  refine nw_new (fs := df0) hx hb hown hu hE ok0 hS u122 dfl0 (Nat.le_of_ble_eq_true rfl) (Nat.le_of_ble_eq_true rfl) dX10_init_83 (fun H1 hbc4 hz oq hS => ?_)
  rw [← hc4] at hbc4 hz oq hat lthbn1c4 lthbn2c4 lthbn3c4 lthbn4c4 lthbc0c4 lthbn5c4 lthbc1c4 lthbc2c4 lthbc3c4 ⊢
  have ho := ho.kept (oq _ hat)
  have hbn1 := hbn1.kept (oq _ lthbn1c4)
  have hbn2 := hbn2.kept (oq _ lthbn2c4)
  have hbn3 := hbn3.kept (oq _ lthbn3c4)
  have hbn4 := hbn4.kept (oq _ lthbn4c4)
  have hbc0 := hbc0.kept (oq _ lthbc0c4)
  have hbn5 := hbn5.kept (oq _ lthbn5c4)
  have hbc1 := hbc1.kept (oq _ lthbc1c4)
  have hbc2 := hbc2.kept (oq _ lthbc2c4)
  have hbc3 := hbc3.kept (oq _ lthbc3c4)
  have hlec4 : H0.size ≤ c4 := by rw [hc4, ← h0]; exact hsz
  have oc : ∀ q : Nat, q < H0.size → q ≠ a → H1[q]? = H0[q]? := fun q h1 h2 => (oq q (Nat.lt_of_lt_of_le h1 hlec4)).trans (oc q h1 h2)
  refine lv_dup hx hb dX10_init_86 rfl ?_
  refine ct_I (As := []) (rest := [.ref c4, .ref a]) hx hb hml hown hu hE hZ hS (fun _ h => h) (fun q h => hA q (Nat.le_trans hS.1 h)) (c_alI l E A H1 c4) kJx4a65c_init_da8c8 u123 (⟨rfl, hbc4, hAc4⟩) ⟨Nat.le_of_ble_eq_true rfl, Nat.le_of_ble_eq_true rfl⟩ rfl hl.1 rfl (Nat.le_of_ble_eq_true rfl) ⟨Nat.le_of_ble_eq_true rfl, Nat.le_of_ble_eq_true rfl⟩ dX10_init_87 (fun v6 H1 locs1 hR hS hz hk => ?_)
  obtain ⟨rfl, hbc4, oq⟩ := hR
  have ho := ho.kept (oq _ (Nat.ne_of_lt hat))
  have oc : ∀ q : Nat, q < H0.size → q ≠ a → H1[q]? = H0[q]? := fun q h1 h2 => (oq q (by omega)).trans (oc q h1 h2)
  have hbn1 := hbn1.kept (oq _ (by have := at_lt hbn1; omega))
  have hbn2 := hbn2.kept (oq _ (by have := at_lt hbn2; omega))
  have hbn3 := hbn3.kept (oq _ (by have := at_lt hbn3; omega))
  have hbn4 := hbn4.kept (oq _ (by have := at_lt hbn4; omega))
  have hbc0 := hbc0.kept (oq _ (by have := at_lt hbc0; omega))
  have hbn5 := hbn5.kept (oq _ (by have := at_lt hbn5; omega))
  have hbc1 := hbc1.kept (oq _ (by have := at_lt hbc1; omega))
  have hbc2 := hbc2.kept (oq _ (by have := at_lt hbc2; omega))
  have hbc3 := hbc3.kept (oq _ (by have := at_lt hbc3; omega))
  refine wr_putF (k := 9) hx hb hown hu hE ok11 hS hAa ho (by decide) u146 rfl rfl hnm rfl rfl (Nat.le_of_ble_eq_true rfl) dX10_init_90 (fun H1 locs1 ho hz oq hS => ?_)
  have oc : ∀ q : Nat, q < H0.size → q ≠ a → H1[q]? = H0[q]? := fun q h1 h2 => (oq q h2).trans (oc q h1 h2)
  have hbn1 := hbn1.kept (oq _ (by omega))
  have hbn2 := hbn2.kept (oq _ (by omega))
  have hbn3 := hbn3.kept (oq _ (by omega))
  have hbn4 := hbn4.kept (oq _ (by omega))
  have hbc0 := hbc0.kept (oq _ (by omega))
  have hbn5 := hbn5.kept (oq _ (by omega))
  have hbc1 := hbc1.kept (oq _ (by omega))
  have hbc2 := hbc2.kept (oq _ (by omega))
  have hbc3 := hbc3.kept (oq _ (by omega))
  have hbc4 := hbc4.kept (oq _ (by omega))
  refine lv_aload_n hx hb dX10_init_93 rfl (lv_at hl 0 rfl) ?_
  obtain ⟨c5, hc5⟩ : ∃ z : Nat, z = H1.size := ⟨_, rfl⟩
  have hAc5 : A c5 := hA c5 (by rw [hc5]; exact hS.1)
  have hsz := hS.1
  have hat := at_lt ho
  have lthbn1c5 := at_lt hbn1
  have lthbn2c5 := at_lt hbn2
  have lthbn3c5 := at_lt hbn3
  have lthbn4c5 := at_lt hbn4
  have lthbc0c5 := at_lt hbc0
  have lthbn5c5 := at_lt hbn5
  have lthbc1c5 := at_lt hbc1
  have lthbc2c5 := at_lt hbc2
  have lthbc3c5 := at_lt hbc3
  have lthbc4c5 := at_lt hbc4
  refine nw_new (fs := df0) hx hb hown hu hE ok0 hS u122 dfl0 (Nat.le_of_ble_eq_true rfl) (Nat.le_of_ble_eq_true rfl) dX10_init_94 (fun H1 hbc5 hz oq hS => ?_)
  rw [← hc5] at hbc5 hz oq hat lthbn1c5 lthbn2c5 lthbn3c5 lthbn4c5 lthbc0c5 lthbn5c5 lthbc1c5 lthbc2c5 lthbc3c5 lthbc4c5 ⊢
  have ho := ho.kept (oq _ hat)
  have hbn1 := hbn1.kept (oq _ lthbn1c5)
  have hbn2 := hbn2.kept (oq _ lthbn2c5)
  have hbn3 := hbn3.kept (oq _ lthbn3c5)
  have hbn4 := hbn4.kept (oq _ lthbn4c5)
  have hbc0 := hbc0.kept (oq _ lthbc0c5)
  have hbn5 := hbn5.kept (oq _ lthbn5c5)
  have hbc1 := hbc1.kept (oq _ lthbc1c5)
  have hbc2 := hbc2.kept (oq _ lthbc2c5)
  have hbc3 := hbc3.kept (oq _ lthbc3c5)
  have hbc4 := hbc4.kept (oq _ lthbc4c5)
  have hlec5 : H0.size ≤ c5 := by rw [hc5, ← h0]; exact hsz
  have oc : ∀ q : Nat, q < H0.size → q ≠ a → H1[q]? = H0[q]? := fun q h1 h2 => (oq q (Nat.lt_of_lt_of_le h1 hlec5)).trans (oc q h1 h2)
  refine lv_dup hx hb dX10_init_97 rfl ?_
  refine ct_I (As := []) (rest := [.ref c5, .ref a]) hx hb hml hown hu hE hZ hS (fun _ h => h) (fun q h => hA q (Nat.le_trans hS.1 h)) (c_alI l E A H1 c5) kJx4a65c_init_da8c8 u123 (⟨rfl, hbc5, hAc5⟩) ⟨Nat.le_of_ble_eq_true rfl, Nat.le_of_ble_eq_true rfl⟩ rfl hl.1 rfl (Nat.le_of_ble_eq_true rfl) ⟨Nat.le_of_ble_eq_true rfl, Nat.le_of_ble_eq_true rfl⟩ dX10_init_98 (fun v7 H1 locs1 hR hS hz hk => ?_)
  obtain ⟨rfl, hbc5, oq⟩ := hR
  have ho := ho.kept (oq _ (Nat.ne_of_lt hat))
  have oc : ∀ q : Nat, q < H0.size → q ≠ a → H1[q]? = H0[q]? := fun q h1 h2 => (oq q (by omega)).trans (oc q h1 h2)
  have hbn1 := hbn1.kept (oq _ (by have := at_lt hbn1; omega))
  have hbn2 := hbn2.kept (oq _ (by have := at_lt hbn2; omega))
  have hbn3 := hbn3.kept (oq _ (by have := at_lt hbn3; omega))
  have hbn4 := hbn4.kept (oq _ (by have := at_lt hbn4; omega))
  have hbc0 := hbc0.kept (oq _ (by have := at_lt hbc0; omega))
  have hbn5 := hbn5.kept (oq _ (by have := at_lt hbn5; omega))
  have hbc1 := hbc1.kept (oq _ (by have := at_lt hbc1; omega))
  have hbc2 := hbc2.kept (oq _ (by have := at_lt hbc2; omega))
  have hbc3 := hbc3.kept (oq _ (by have := at_lt hbc3; omega))
  have hbc4 := hbc4.kept (oq _ (by have := at_lt hbc4; omega))
  refine wr_putF (k := 10) hx hb hown hu hE ok11 hS hAa ho (by decide) u147 rfl rfl hnm rfl rfl (Nat.le_of_ble_eq_true rfl) dX10_init_101 (fun H1 locs1 ho hz oq hS => ?_)
  have oc : ∀ q : Nat, q < H0.size → q ≠ a → H1[q]? = H0[q]? := fun q h1 h2 => (oq q h2).trans (oc q h1 h2)
  have hbn1 := hbn1.kept (oq _ (by omega))
  have hbn2 := hbn2.kept (oq _ (by omega))
  have hbn3 := hbn3.kept (oq _ (by omega))
  have hbn4 := hbn4.kept (oq _ (by omega))
  have hbc0 := hbc0.kept (oq _ (by omega))
  have hbn5 := hbn5.kept (oq _ (by omega))
  have hbc1 := hbc1.kept (oq _ (by omega))
  have hbc2 := hbc2.kept (oq _ (by omega))
  have hbc3 := hbc3.kept (oq _ (by omega))
  have hbc4 := hbc4.kept (oq _ (by omega))
  have hbc5 := hbc5.kept (oq _ (by omega))
  refine lv_aload_n hx hb dX10_init_104 rfl (lv_at hl 0 rfl) ?_
  obtain ⟨n6, hn6⟩ : ∃ z : Nat, z = H1.size := ⟨_, rfl⟩
  have hAn6 : A n6 := hA n6 (by rw [hn6]; exact hS.1)
  have hsz := hS.1
  have hat := at_lt ho
  have lthbn1n6 := at_lt hbn1
  have lthbn2n6 := at_lt hbn2
  have lthbn3n6 := at_lt hbn3
  have lthbn4n6 := at_lt hbn4
  have lthbc0n6 := at_lt hbc0
  have lthbn5n6 := at_lt hbn5
  have lthbc1n6 := at_lt hbc1
  have lthbc2n6 := at_lt hbc2
  have lthbc3n6 := at_lt hbc3
  have lthbc4n6 := at_lt hbc4
  have lthbc5n6 := at_lt hbc5
  refine nw_new (fs := df3) hx hb hown hu hE ok3 hS u124 dfl3 (Nat.le_of_ble_eq_true rfl) (Nat.le_of_ble_eq_true rfl) dX10_init_105 (fun H1 hbn6 hz oq hS => ?_)
  rw [← hn6] at hbn6 hz oq hat lthbn1n6 lthbn2n6 lthbn3n6 lthbn4n6 lthbc0n6 lthbn5n6 lthbc1n6 lthbc2n6 lthbc3n6 lthbc4n6 lthbc5n6 ⊢
  have ho := ho.kept (oq _ hat)
  have hbn1 := hbn1.kept (oq _ lthbn1n6)
  have hbn2 := hbn2.kept (oq _ lthbn2n6)
  have hbn3 := hbn3.kept (oq _ lthbn3n6)
  have hbn4 := hbn4.kept (oq _ lthbn4n6)
  have hbc0 := hbc0.kept (oq _ lthbc0n6)
  have hbn5 := hbn5.kept (oq _ lthbn5n6)
  have hbc1 := hbc1.kept (oq _ lthbc1n6)
  have hbc2 := hbc2.kept (oq _ lthbc2n6)
  have hbc3 := hbc3.kept (oq _ lthbc3n6)
  have hbc4 := hbc4.kept (oq _ lthbc4n6)
  have hbc5 := hbc5.kept (oq _ lthbc5n6)
  have hlen6 : H0.size ≤ n6 := by rw [hn6, ← h0]; exact hsz
  have oc : ∀ q : Nat, q < H0.size → q ≠ a → H1[q]? = H0[q]? := fun q h1 h2 => (oq q (Nat.lt_of_lt_of_le h1 hlen6)).trans (oc q h1 h2)
  refine lv_dup hx hb dX10_init_108 rfl ?_
  refine ct_I (As := []) (rest := [.ref n6, .ref a]) hx hb hml hown hu hE hZ hS (fun _ h => h) (fun q h => hA q (Nat.le_trans hS.1 h)) (i_Pln l E A H1 n6) kX2_init u126 (⟨rfl, hbn6, hAn6⟩) ⟨Nat.le_of_ble_eq_true rfl, Nat.le_of_ble_eq_true rfl⟩ rfl hl.1 rfl (Nat.le_of_ble_eq_true rfl) ⟨Nat.le_of_ble_eq_true rfl, Nat.le_of_ble_eq_true rfl⟩ dX10_init_109 (fun v8 H1 locs1 hR hS hz hk => ?_)
  obtain ⟨rfl, ⟨n7, n8, hlen7, hlen8, hbn6, hbn7, hbn8, hAn7, hAn8⟩, oq⟩ := hR
  have ho := ho.kept (oq _ (by omega) (Nat.ne_of_lt hat))
  have oc : ∀ q : Nat, q < H0.size → q ≠ a → H1[q]? = H0[q]? := fun q h1 h2 => (oq q (by omega) (by omega)).trans (oc q h1 h2)
  have hbn1 := hbn1.kept (oq _ (by omega) (by omega))
  have hbn2 := hbn2.kept (oq _ (by omega) (by omega))
  have hbn3 := hbn3.kept (oq _ (by omega) (by omega))
  have hbn4 := hbn4.kept (oq _ (by omega) (by omega))
  have hbc0 := hbc0.kept (oq _ (by omega) (by omega))
  have hbn5 := hbn5.kept (oq _ (by omega) (by omega))
  have hbc1 := hbc1.kept (oq _ (by omega) (by omega))
  have hbc2 := hbc2.kept (oq _ (by omega) (by omega))
  have hbc3 := hbc3.kept (oq _ (by omega) (by omega))
  have hbc4 := hbc4.kept (oq _ (by omega) (by omega))
  have hbc5 := hbc5.kept (oq _ (by omega) (by omega))
  refine wr_putF (k := 11) hx hb hown hu hE ok11 hS hAa ho (by decide) u148 rfl rfl hnm rfl rfl (Nat.le_of_ble_eq_true rfl) dX10_init_112 (fun H1 locs1 ho hz oq hS => ?_)
  have oc : ∀ q : Nat, q < H0.size → q ≠ a → H1[q]? = H0[q]? := fun q h1 h2 => (oq q h2).trans (oc q h1 h2)
  have hbn1 := hbn1.kept (oq _ (by omega))
  have hbn2 := hbn2.kept (oq _ (by omega))
  have hbn3 := hbn3.kept (oq _ (by omega))
  have hbn4 := hbn4.kept (oq _ (by omega))
  have hbc0 := hbc0.kept (oq _ (by omega))
  have hbn5 := hbn5.kept (oq _ (by omega))
  have hbc1 := hbc1.kept (oq _ (by omega))
  have hbc2 := hbc2.kept (oq _ (by omega))
  have hbc3 := hbc3.kept (oq _ (by omega))
  have hbc4 := hbc4.kept (oq _ (by omega))
  have hbc5 := hbc5.kept (oq _ (by omega))
  have hbn6 := hbn6.kept (oq _ (by omega))
  have hbn7 := hbn7.kept (oq _ (by omega))
  have hbn8 := hbn8.kept (oq _ (by omega))
  exact ct_rv hx hb hr hlocks hS (⟨rfl, ⟨L0 a n1 n2 n3 n4 n5 n6 n7 n8 c0 c1 c2 c3 c4 c5, rfl, cd_init (b1 := n1) (b2 := n2) (b3 := n3) (b4 := n4) (b5 := n5) (b6 := n6) (b7 := n7) (b8 := n8) (c0 := c0) (c1 := c1) (c2 := c2) (c3 := c3) (c4 := c4) (c5 := c5) rfl (by omega) (by omega) (by omega) (by omega) (by omega) (by omega) (by omega) (by omega) (by omega) (by omega) (by omega) (by omega) (by omega) (by omega) hAa hAn1 hAn2 hAn3 hAn4 hAn5 hAn6 hAn7 hAn8 hAc0 hAc1 hAc2 hAc3 hAc4 hAc5 ho hbn1 hbn2 hbn3 hbn4 hbn5 hbn6 hbn7 hbn8 hbc0 hbc1 hbc2 hbc3 hbc4 hbc5⟩, oc⟩) (Nat.le_of_ble_eq_true rfl) (Nat.le_of_ble_eq_true rfl) dX10_init_115
