set_option maxHeartbeats 4000000 in
set_option maxRecDepth 20000 in
theorem c_acI (l : Launch) (E : EV) (A : Nat → Prop) (H0 : Heap) (lo_ : Nat) : Ct l E yJxa1e45_init_da8c8 cJxa1e45_init_da8c8 1 none 1 20 0 0 A [.ref lo_] (fun H => H = H0) (fun v H => v = none ∧ H = H0) := by
  refine Ct.of (by decide +kernel) (Nat.le_of_ble_eq_true rfl) (fun pg ev s mi bel mth cd hx hb hr hml hown hu hlocks hnm hE hP hA hZ ls hl => ?_)
  have hl : lv_has ls 1 [(0, .ref lo_)] := hl
  have hS : va_S A s.heap s.heap [] := va_S.rf
  refine lv_aload_n hx hb dJxa1e45_init_da8c8_0 rfl (lv_at hl 0 rfl) ?_
  refine W.objInit hx hb hown (hu _ u60) (hu _ u29) (hu _ u30) rfl (by rw [hml]; exact hl.1) rfl dJxa1e45_init_da8c8_1 (Nat.le_of_ble_eq_true rfl) (Nat.le_of_ble_eq_true rfl) ?_
  refine W.eq (g2 := F0 mi 4 ls []) rfl ?_
  exact ct_rv hx hb hr hlocks hS ⟨rfl, hP⟩ (Nat.le_of_ble_eq_true rfl) (Nat.le_of_ble_eq_true rfl) dJxa1e45_init_da8c8_4
set_option maxHeartbeats 4000000 in
set_option maxRecDepth 20000 in
theorem c_abI (l : Launch) (E : EV) (A : Nat → Prop) (H0 : Heap) (lo_ : Nat) : Ct l E yJxc12de_init_da8c8 cJxc12de_init_da8c8 1 none 2 40 0 0 A [.ref lo_] (fun H => H = H0 ∧ ob E lo_ 0 [.int 0, .null, .int 0] H ∧ A lo_) (fun v H => v = none ∧ ob E lo_ 0 [.int 0, .null, .int 0] H ∧ ∀ q : Nat, q ≠ lo_ → H[q]? = H0[q]?) := by
  refine Ct.of (by decide +kernel) (Nat.le_of_ble_eq_true rfl) (fun pg ev s mi bel mth cd hx hb hr hml hown hu hlocks hnm hE hP hA hZ ls hl => ?_)
  have hl : lv_has ls 1 [(0, .ref lo_)] := hl
  obtain ⟨hH, hL, hAl⟩ := hP
  have hS : va_S A s.heap s.heap [] := va_S.rf
  refine lv_aload_n hx hb dJxc12de_init_da8c8_0 rfl (lv_at hl 0 rfl) ?_
  refine ct_I (As := []) (rest := []) hx hb hml hown hu hE hZ hS (fun _ h => h) (fun q h => hA q (Nat.le_trans hS.1 h)) (c_acI l E A s.heap lo_) kJxa1e45_init_da8c8 u57 rfl ⟨Nat.le_of_ble_eq_true rfl, Nat.le_of_ble_eq_true rfl⟩ rfl hl.1 rfl (Nat.le_of_ble_eq_true rfl) ⟨Nat.le_of_ble_eq_true rfl, Nat.le_of_ble_eq_true rfl⟩ dJxc12de_init_da8c8_1 (fun r H1 locs1 hR hS hz hk => ?_)
  obtain ⟨rfl, rfl⟩ := hR
  refine lv_aload_n hx hb dJxc12de_init_da8c8_4 rfl (lv_at hl 0 rfl) ?_
  refine lv_iconst (v := 0) hx hb dJxc12de_init_da8c8_5 (by decide) ?_
  refine wr_put (k := 0) hx hb hown hu hE ok0 hS hAl hL (by decide) u65 (Or.inl rfl) rfl rfl rfl (Nat.le_of_ble_eq_true rfl) dJxc12de_init_da8c8_6 (fun H2 locs2 hL2 hz2 ho2 hS => ?_)
  exact ct_rv hx hb hr hlocks hS ⟨rfl, hL2, fun q hq => by rw [ho2 q hq, hH]⟩ (Nat.le_of_ble_eq_true rfl) (Nat.le_of_ble_eq_true rfl) dJxc12de_init_da8c8_9
set_option maxHeartbeats 4000000 in
set_option maxRecDepth 20000 in
/-- new ArrayList(): nothing in it -/
theorem c_alI (l : Launch) (E : EV) (A : Nat → Prop) (H0 : Heap) (lo_ : Nat) : Ct l E yJx4a65c_init_da8c8 cJx4a65c_init_da8c8 1 none 3 60 0 0 A [.ref lo_] (fun H => H = H0 ∧ ob E lo_ 0 [.int 0, .null, .int 0] H ∧ A lo_) (fun v H => v = none ∧ ob E lo_ 0 [.int 0, .ref (E.2 11), .int 0] H ∧ ∀ q : Nat, q ≠ lo_ → H[q]? = H0[q]?) := by
  refine Ct.of (by decide +kernel) (Nat.le_of_ble_eq_true rfl) (fun pg ev s mi bel mth cd hx hb hr hml hown hu hlocks hnm hE hP hA hZ ls hl => ?_)
  have hl : lv_has ls 1 [(0, .ref lo_)] := hl
  obtain ⟨hH, hL, hAl⟩ := hP
  have hS : va_S A s.heap s.heap [] := va_S.rf
  refine lv_aload_n hx hb dJx4a65c_init_da8c8_0 rfl (lv_at hl 0 rfl) ?_
  refine ct_I (As := []) (rest := []) hx hb hml hown hu hE hZ hS (fun _ h => h) (fun q h => hA q (Nat.le_trans hS.1 h)) (c_abI l E A s.heap lo_) kJxc12de_init_da8c8 u54 ⟨rfl, hL, hAl⟩ ⟨Nat.le_of_ble_eq_true rfl, Nat.le_of_ble_eq_true rfl⟩ rfl hl.1 rfl (Nat.le_of_ble_eq_true rfl) ⟨Nat.le_of_ble_eq_true rfl, Nat.le_of_ble_eq_true rfl⟩ dJx4a65c_init_da8c8_1 (fun r H1 locs1 hR hS hz hk => ?_)
  obtain ⟨rfl, hL1, ho1⟩ := hR
  refine lv_aload_n hx hb dJx4a65c_init_da8c8_4 rfl (lv_at hl 0 rfl) ?_
  refine va_gets hx hb hZ.1 hS hown (hu _ u61) (fun _ h => h) dJx4a65c_init_da8c8_5 ?_
  refine wr_put (k := 1) hx hb hown hu hE ok0 hS hAl hL1 (by decide) u63 (Or.inl rfl) rfl rfl rfl (Nat.le_of_ble_eq_true rfl) dJx4a65c_init_da8c8_8 (fun H2 locs2 hL2 hz2 ho2 hS => ?_)
  exact ct_rv hx hb hr hlocks hS ⟨rfl, hL2, fun q hq => by rw [ho2 q hq, ho1 q hq, hH]⟩ (Nat.le_of_ble_eq_true rfl) (Nat.le_of_ble_eq_true rfl) dJx4a65c_init_da8c8_11
set_option maxHeartbeats 4000000 in
set_option maxRecDepth 20000 in
/-- add(v) -/
theorem c_add (l : Launch) (E : EV) (A : Nat → Prop) (H0 : Heap) (lo_ ar n cap ci v : Nat) (el : Nat → Nat) (fs : List Value) (md : Int32) : Ct l E yJx4a65c_add_9ea2d cJx4a65c_add_9ea2d 2 (some .boolean) 6 170 1 400 A [.ref lo_, .ref v] (fun H => H = H0 ∧ ob E lo_ 0 [.int md, .ref ar, .int (nI n)] H ∧ A lo_ ∧ arOK E A ar n cap el H ∧ cap ≤ 250 ∧ elC ci ∧ (∀ i, i < n → el i ≠ lo_ ∧ ∃ fs : List Value, ob E (el i) ci fs H) ∧ ob E v ci fs H ∧ lo_ ≠ v ∧ lo_ ≠ ar ∧ (0 < cap → v ≠ ar)) (fun r H => r = some (.int 1) ∧ addR E A H0 lo_ ar n cap v el (md + 1) H) := by
  refine Ct.of (by decide +kernel) (Nat.le_of_ble_eq_true rfl) (fun pg ev s mi bel mth cd hx hb hr hml hown hu hlocks hnm hE hP hA hZ ls hl => ?_)
  have hl : lv_has ls 2 [(0, .ref lo_), (1, .ref v)] := hl
  obtain ⟨hH, hL, hAl, hAr, hcap, hc, hel, hV, hnv, hna, hva⟩ := hP
  subst hH
  have hS : va_S A s.heap s.heap [] := va_S.rf
  refine lv_aload_n hx hb dJx4a65c_add_9ea2d_0 rfl (lv_at hl 0 rfl) ?_
  refine lv_dup hx hb dJx4a65c_add_9ea2d_1 rfl ?_
  refine rd_get (k := 0) (v := .int md) hx hb hown hu hE ok0 hL (by decide) u66 (u_same (hu _ u67)) rfl dJx4a65c_add_9ea2d_2 ?_
  refine lv_iconst (v := 1) hx hb dJx4a65c_add_9ea2d_5 (by decide) ?_
  refine lv_iadd hx hb dJx4a65c_add_9ea2d_6 ?_
  refine wr_put (k := 0) hx hb hown hu hE ok0 hS hAl hL (by decide) u66 (Or.inr u67) rfl rfl rfl (Nat.le_of_ble_eq_true rfl) dJx4a65c_add_9ea2d_7 (fun H1 locs1 hL1 hz1 ho1 hS => ?_)
  have hL1 : ob E lo_ 0 [.int (md + 1), .ref ar, .int (nI n)] H1 := hL1
  refine lv_aload_n hx hb dJx4a65c_add_9ea2d_10 rfl (lv_at hl 0 rfl) ?_
  refine lv_aload_n hx hb dJx4a65c_add_9ea2d_11 rfl (lv_at hl 1 rfl) ?_
  refine lv_aload_n hx hb dJx4a65c_add_9ea2d_12 rfl (lv_at hl 0 rfl) ?_
  refine rd_get (k := 1) (v := .ref ar) hx hb hown hu hE ok0 hL1 (by decide) u63 (fun _ h => h) rfl dJx4a65c_add_9ea2d_13 ?_
  refine lv_aload_n hx hb dJx4a65c_add_9ea2d_16 rfl (lv_at hl 0 rfl) ?_
  refine rd_get (k := 2) (v := .int (nI n)) hx hb hown hu hE ok0 hL1 (by decide) u64 (fun _ h => h) rfl dJx4a65c_add_9ea2d_17 ?_
  have hAr1 : arOK E A ar n cap el H1 := by
    rcases hAr with h | ⟨h1, h2, h3, h4⟩
    · exact Or.inl h
    · exact Or.inr ⟨h1, h2, h3.kept (ho1 _ (Ne.symm hna)), h4⟩
  refine ct_V (As := [.ref v, .ref ar, .int (nI n)]) (rest := []) hx hb hml hown hu hE hZ hS (fun _ h => h) (fun q h => hA q (Nat.le_trans hS.1 h)) (c_addp l E A H1 lo_ ar n cap ci v el fs (md + 1)) kJx4a65c_add_72be8 u202 hL1 rfl rfl ⟨rfl, hL1, hAl, hAr1, hcap, hc, fun i hi => by obtain ⟨g0, fs, g1⟩ := hel i hi; exact ⟨fs, g1.kept (ho1 _ g0)⟩, hV.kept (ho1 _ (Ne.symm hnv)), hnv, hna, hva⟩ ⟨Nat.le_of_ble_eq_true rfl, Nat.le_of_ble_eq_true rfl⟩ rfl hl.1 rfl (Nat.le_of_ble_eq_true rfl) ⟨Nat.le_of_ble_eq_true rfl, Nat.le_of_ble_eq_true rfl⟩ dJx4a65c_add_9ea2d_20 (fun r H2 locs2 hR hS hz hk => ?_)
  obtain ⟨rfl, ar', g1, g2, g3, g4, g5, g6⟩ := hR
  refine lv_iconst (v := 1) hx hb dJx4a65c_add_9ea2d_23 (by decide) ?_
  exact ct_rz hx hb hr hlocks hS ⟨rfl, ar', g1, g2, g3, g4, by rw [← hz1]; exact g5, fun q hq h1 h2 => by rw [g6 q (by rw [hz1]; exact hq) h1 h2, ho1 q h1]⟩ rfl (Nat.le_of_ble_eq_true rfl) (Nat.le_of_ble_eq_true rfl) dJx4a65c_add_9ea2d_24
