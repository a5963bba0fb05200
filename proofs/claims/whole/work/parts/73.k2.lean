set_option maxHeartbeats 4000000 in
set_option maxRecDepth 20000 in
theorem law_k9 {p : Program} {l : Launch} {e : Env} {s : State} {m : MethodId} {below : List Frame} {meth : Method} {c : Code} {b Ln x y i : Nat} {xs : Nat → Int32} {E : EV} {M : Nat → Nat} {H : Heap} {locs : List Loc} {ls : Array Slot} (hx : p.tables.exec = Jvm.exec) (hb : c.code = code) (hml : c.maxLocals = 4) (hown : s.vm.findClass R_law = some m.cls) (hu : ∀ w ∈ uw, w.before #[Value.ref b] s = true) (hE : evK E s) (hZ : evZ E (fun q => s.heap.size ≤ q) s s.heap) (hX : va_X b Ln xs s s.heap) (hbl : b < s.heap.size) (hLn : Ln ≤ 2560) (h5 : 5 * i + 5 ≤ Ln) (ih : lwIH p l e s m below meth c b x y E M (i + 1)) (hLI : LI E s.heap.size x y M H) (hS : va_S (fun q => s.heap.size ≤ q) s.heap H locs) (hl : lv_has ls 4 [(0, .ref b), (1, .ref x), (2, .ref y), (3, .int (nI (5 * i)))]) : W p l e room_1 s m #[Value.ref b] below meth c H locs (300 + 3 * i) (30000 + 500 * i) (lw_Z below #[Value.ref b] s) (F0 m 475 ls []) := by
  have hbA : ¬ s.heap.size ≤ b := by omega
  obtain ⟨σ, L, hC, hM, hV, hx0, hy0, hMn⟩ := hLI
  subst hx0
  subst hy0
  obtain ⟨hI, hL, hK, hJ, hZ_, hQ_, hKK, hO_, hD_, hF_, hW_, hN_, hB_⟩ := id hV
  have hr1 : ∀ q, H.size ≤ q → reg1 s.heap.size M q := fun q hq => ⟨Nat.le_trans hS.1 hq, fun t ht z => by have := md_lt hM ht; omega⟩
  refine lv_aload_n hx hb dL_law_475 rfl (lv_at hl 1 rfl) ?_
  refine lv_aload_n hx hb dL_law_476 rfl (lv_at hl 0 rfl) ?_
  refine lv_iload_n hx hb dL_law_477 rfl (lv_at hl 3 rfl) ?_
  refine lv_iconst (v := 1) hx hb dL_law_478 (by decide) ?_
  refine lv_iadd hx hb dL_law_479 ?_
  rw [show nI (5 * i) + 1 = nI (5 * i + 1) from nI_add (5 * i) 1]
  refine va_sld hx hb hX hbl hbA hS (vp_in_nI (N := Ln) (by omega) (by omega)) dL_law_480 ?_
  rw [nI_clamp (n := 5 * i + 1) (by omega)]
  refine lv_aload_n hx hb dL_law_481 rfl (lv_at hl 0 rfl) ?_
  refine lv_iload_n hx hb dL_law_482 rfl (lv_at hl 3 rfl) ?_
  refine lv_iconst (v := 2) hx hb dL_law_483 (by decide) ?_
  refine lv_iadd hx hb dL_law_484 ?_
  rw [show nI (5 * i) + 2 = nI (5 * i + 2) from nI_add (5 * i) 2]
  refine va_sld hx hb hX hbl hbA hS (vp_in_nI (N := Ln) (by omega) (by omega)) dL_law_485 ?_
  rw [nI_clamp (n := 5 * i + 2) (by omega)]
  refine cr_V (As := [.int (xs (5 * i + 1)), .int (xs (5 * i + 2))]) (rest := []) hx hb hml hown hu hE (x_hung l E (reg1 s.heap.size M) σ L (xs (5 * i + 1)) (xs (5 * i + 2))) kX10_hung u495 (cd_reg hC) rfl rfl (⟨hC, hI⟩) ⟨Nat.le_of_ble_eq_true rfl, Nat.le_of_ble_eq_true rfl⟩ rfl hl.1 rfl (Nat.le_of_ble_eq_true rfl) ⟨by show _ ≤ 600000; omega, by show _ ≤ 7302250; omega⟩ dL_law_486 ?_
  have hC1 := hC
  have hx1 : L 0 0 = L 0 0 := rfl
  have hM1 := hM
  refine lv_aload_n hx hb dL_law_489 rfl (lv_at hl 2 rfl) ?_
  refine lv_aload_n hx hb dL_law_490 rfl (lv_at hl 0 rfl) ?_
  refine lv_iload_n hx hb dL_law_491 rfl (lv_at hl 3 rfl) ?_
  refine lv_iconst (v := 1) hx hb dL_law_492 (by decide) ?_
  refine lv_iadd hx hb dL_law_493 ?_
  rw [show nI (5 * i) + 1 = nI (5 * i + 1) from nI_add (5 * i) 1]
  refine va_sld hx hb hX hbl hbA hS (vp_in_nI (N := Ln) (by omega) (by omega)) dL_law_494 ?_
  rw [nI_clamp (n := 5 * i + 1) (by omega)]
  refine lv_aload_n hx hb dL_law_495 rfl (lv_at hl 0 rfl) ?_
  refine lv_iload_n hx hb dL_law_496 rfl (lv_at hl 3 rfl) ?_
  refine lv_iconst (v := 2) hx hb dL_law_497 (by decide) ?_
  refine lv_iadd hx hb dL_law_498 ?_
  rw [show nI (5 * i) + 2 = nI (5 * i + 2) from nI_add (5 * i) 2]
  refine va_sld hx hb hX hbl hbA hS (vp_in_nI (N := Ln) (by omega) (by omega)) dL_law_499 ?_
  rw [nI_clamp (n := 5 * i + 2) (by omega)]
  have hr2 : ∀ q, reg2 H.size M q → s.heap.size ≤ q := fun q h => h.elim (fun ⟨t, ht, z⟩ => by rw [z]; exact hMn t ht) (fun z => Nat.le_trans hS.1 z)
  refine cr_V (As := [.int (xs (5 * i + 1)), .int (xs (5 * i + 2))]) (rest := [.int (k_hung σ (xs (5 * i + 1)) (xs (5 * i + 2)))]) hx hb hml hown hu hE (c_hung l E (fun _ => True) σ M (xs (5 * i + 1)) (xs (5 * i + 2))) kX11_hung u961 (md_obj hM1) rfl rfl ⟨hM1, hI⟩ ⟨Nat.le_of_ble_eq_true rfl, Nat.le_of_ble_eq_true rfl⟩ rfl hl.1 rfl (Nat.le_of_ble_eq_true rfl) ⟨by show _ ≤ 600000; omega, by show _ ≤ 7302250; omega⟩ dL_law_500 ?_
  have hM2 := hM1
  have hC2 := hC1
  have heq : k_hung σ (xs (5 * i + 1)) (xs (5 * i + 2)) = m_hungA σ (xs (5 * i + 1)) (xs (5 * i + 2)) := hungA_eq hI hF_
  refine lv_icmp_eq (x := k_hung σ (xs (5 * i + 1)) (xs (5 * i + 2))) (y := m_hungA σ (xs (5 * i + 1)) (xs (5 * i + 2))) (tgt := 969) hx hb dL_law_503 (by decide) (fun _ => ?_) (fun z => absurd heq z)
  exact law_next hx hb hml hown hu hE hZ hX hbl hLn h5 ih ⟨by omega, by omega⟩ (⟨σ, L, hC2, md_reA hM2 (fun _ _ => trivial), hV, rfl, rfl, hMn⟩) hS hl
set_option maxHeartbeats 4000000 in
set_option maxRecDepth 20000 in
theorem law_k10 {p : Program} {l : Launch} {e : Env} {s : State} {m : MethodId} {below : List Frame} {meth : Method} {c : Code} {b Ln x y i : Nat} {xs : Nat → Int32} {E : EV} {M : Nat → Nat} {H : Heap} {locs : List Loc} {ls : Array Slot} (hx : p.tables.exec = Jvm.exec) (hb : c.code = code) (hml : c.maxLocals = 4) (hown : s.vm.findClass R_law = some m.cls) (hu : ∀ w ∈ uw, w.before #[Value.ref b] s = true) (hE : evK E s) (hZ : evZ E (fun q => s.heap.size ≤ q) s s.heap) (hX : va_X b Ln xs s s.heap) (hbl : b < s.heap.size) (hLn : Ln ≤ 2560) (h5 : 5 * i + 5 ≤ Ln) (ih : lwIH p l e s m below meth c b x y E M (i + 1)) (hLI : LI E s.heap.size x y M H) (hS : va_S (fun q => s.heap.size ≤ q) s.heap H locs) (hl : lv_has ls 4 [(0, .ref b), (1, .ref x), (2, .ref y), (3, .int (nI (5 * i)))]) : W p l e room_1 s m #[Value.ref b] below meth c H locs (300 + 3 * i) (30000 + 500 * i) (lw_Z below #[Value.ref b] s) (F0 m 508 ls []) := by
  have hbA : ¬ s.heap.size ≤ b := by omega
  obtain ⟨σ, L, hC, hM, hV, hx0, hy0, hMn⟩ := hLI
  subst hx0
  subst hy0
  obtain ⟨hI, hL, hK, hJ, hZ_, hQ_, hKK, hO_, hD_, hF_, hW_, hN_, hB_⟩ := id hV
  have hr1 : ∀ q, H.size ≤ q → reg1 s.heap.size M q := fun q hq => ⟨Nat.le_trans hS.1 hq, fun t ht z => by have := md_lt hM ht; omega⟩
  refine lv_aload_n hx hb dL_law_508 rfl (lv_at hl 1 rfl) ?_
  refine lv_aload_n hx hb dL_law_509 rfl (lv_at hl 0 rfl) ?_
  refine lv_iload_n hx hb dL_law_510 rfl (lv_at hl 3 rfl) ?_
  refine lv_iconst (v := 1) hx hb dL_law_511 (by decide) ?_
  refine lv_iadd hx hb dL_law_512 ?_
  rw [show nI (5 * i) + 1 = nI (5 * i + 1) from nI_add (5 * i) 1]
  refine va_sld hx hb hX hbl hbA hS (vp_in_nI (N := Ln) (by omega) (by omega)) dL_law_513 ?_
  rw [nI_clamp (n := 5 * i + 1) (by omega)]
  refine cr_V (As := [.int (xs (5 * i + 1))]) (rest := []) hx hb hml hown hu hE (x_ripe l E (reg1 s.heap.size M) σ L (xs (5 * i + 1))) kX10_ripe u513 (cd_reg hC) rfl rfl (⟨hC, hI, hL⟩) ⟨Nat.le_of_ble_eq_true rfl, Nat.le_of_ble_eq_true rfl⟩ rfl hl.1 rfl (Nat.le_of_ble_eq_true rfl) ⟨by show _ ≤ 600000; omega, by show _ ≤ 7302250; omega⟩ dL_law_514 ?_
  have hC1 := hC
  have hx1 : L 0 0 = L 0 0 := rfl
  have hM1 := hM
  refine lv_aload_n hx hb dL_law_517 rfl (lv_at hl 2 rfl) ?_
  refine lv_aload_n hx hb dL_law_518 rfl (lv_at hl 0 rfl) ?_
  refine lv_iload_n hx hb dL_law_519 rfl (lv_at hl 3 rfl) ?_
  refine lv_iconst (v := 1) hx hb dL_law_520 (by decide) ?_
  refine lv_iadd hx hb dL_law_521 ?_
  rw [show nI (5 * i) + 1 = nI (5 * i + 1) from nI_add (5 * i) 1]
  refine va_sld hx hb hX hbl hbA hS (vp_in_nI (N := Ln) (by omega) (by omega)) dL_law_522 ?_
  rw [nI_clamp (n := 5 * i + 1) (by omega)]
  have hr2 : ∀ q, reg2 H.size M q → s.heap.size ≤ q := fun q h => h.elim (fun ⟨t, ht, z⟩ => by rw [z]; exact hMn t ht) (fun z => Nat.le_trans hS.1 z)
  refine ct_V (As := [.int (xs (5 * i + 1))]) (rest := [.int (m_ripeA σ (xs (5 * i + 1)))]) hx hb hml hown hu hE hZ hS hr2 (fun q h => Or.inr h) (c_ripe l E (reg2 H.size M) σ M (xs (5 * i + 1))) kX11_ripe u969 (md_obj hM1) rfl rfl ⟨md_reA hM1 (fun t ht => Or.inl ⟨t, ht, rfl⟩), hI⟩ ⟨Nat.le_of_ble_eq_true rfl, Nat.le_of_ble_eq_true rfl⟩ rfl hl.1 rfl (Nat.le_of_ble_eq_true rfl) ⟨by show _ ≤ 600000; omega, by show _ ≤ 7302250; omega⟩ dL_law_523 (fun v H2 locs2 hR hS hz hk => ?_)
  obtain ⟨rfl, hM2⟩ := hR
  have hC2 := cd_stay hC1 hk
  have heq : m_ripeA σ (xs (5 * i + 1)) = m_ripeA σ (xs (5 * i + 1)) := rfl
  refine lv_icmp_eq (x := m_ripeA σ (xs (5 * i + 1))) (y := m_ripeA σ (xs (5 * i + 1))) (tgt := 969) hx hb dL_law_526 (by decide) (fun _ => ?_) (fun z => absurd heq z)
  exact law_next hx hb hml hown hu hE hZ hX hbl hLn h5 ih ⟨by omega, by omega⟩ (⟨σ, L, hC2, md_reA hM2 (fun _ _ => trivial), hV, rfl, rfl, hMn⟩) hS hl
set_option maxHeartbeats 4000000 in
set_option maxRecDepth 20000 in
theorem law_k11 {p : Program} {l : Launch} {e : Env} {s : State} {m : MethodId} {below : List Frame} {meth : Method} {c : Code} {b Ln x y i : Nat} {xs : Nat → Int32} {E : EV} {M : Nat → Nat} {H : Heap} {locs : List Loc} {ls : Array Slot} (hx : p.tables.exec = Jvm.exec) (hb : c.code = code) (hml : c.maxLocals = 4) (hown : s.vm.findClass R_law = some m.cls) (hu : ∀ w ∈ uw, w.before #[Value.ref b] s = true) (hE : evK E s) (hZ : evZ E (fun q => s.heap.size ≤ q) s s.heap) (hX : va_X b Ln xs s s.heap) (hbl : b < s.heap.size) (hLn : Ln ≤ 2560) (h5 : 5 * i + 5 ≤ Ln) (ih : lwIH p l e s m below meth c b x y E M (i + 1)) (hLI : LI E s.heap.size x y M H) (hS : va_S (fun q => s.heap.size ≤ q) s.heap H locs) (hl : lv_has ls 4 [(0, .ref b), (1, .ref x), (2, .ref y), (3, .int (nI (5 * i)))]) : W p l e room_1 s m #[Value.ref b] below meth c H locs (300 + 3 * i) (30000 + 500 * i) (lw_Z below #[Value.ref b] s) (F0 m 531 ls []) := by
  have hbA : ¬ s.heap.size ≤ b := by omega
  obtain ⟨σ, L, hC, hM, hV, hx0, hy0, hMn⟩ := hLI
  subst hx0
  subst hy0
  obtain ⟨hI, hL, hK, hJ, hZ_, hQ_, hKK, hO_, hD_, hF_, hW_, hN_, hB_⟩ := id hV
  have hr1 : ∀ q, H.size ≤ q → reg1 s.heap.size M q := fun q hq => ⟨Nat.le_trans hS.1 hq, fun t ht z => by have := md_lt hM ht; omega⟩
  refine lv_aload_n hx hb dL_law_531 rfl (lv_at hl 1 rfl) ?_
  refine lv_aload_n hx hb dL_law_532 rfl (lv_at hl 0 rfl) ?_
  refine lv_iload_n hx hb dL_law_533 rfl (lv_at hl 3 rfl) ?_
  refine lv_iconst (v := 1) hx hb dL_law_534 (by decide) ?_
  refine lv_iadd hx hb dL_law_535 ?_
  rw [show nI (5 * i) + 1 = nI (5 * i + 1) from nI_add (5 * i) 1]
  refine va_sld hx hb hX hbl hbA hS (vp_in_nI (N := Ln) (by omega) (by omega)) dL_law_536 ?_
  rw [nI_clamp (n := 5 * i + 1) (by omega)]
  refine ct_V (As := [.int (xs (5 * i + 1))]) (rest := []) hx hb hml hown hu hE hZ hS (fun _ h => h.1) hr1 (y_object l E (reg1 s.heap.size M) σ L (xs (5 * i + 1))) kX10_object u526 (cd_reg hC) rfl rfl (⟨hC, hI, hK, hJ, hZ_, hL⟩) ⟨Nat.le_of_ble_eq_true rfl, Nat.le_of_ble_eq_true rfl⟩ rfl hl.1 rfl (Nat.le_of_ble_eq_true rfl) ⟨by show _ ≤ 600000; omega, by show _ ≤ 7302250; omega⟩ dL_law_537 (fun v H1 locs1 hR hS hz hk => ?_)
  obtain ⟨L1, rfl, hC1, hx1⟩ := hR
  have hM1 := md_stay hM hk
  refine lv_aload_n hx hb dL_law_540 rfl (lv_at hl 2 rfl) ?_
  refine lv_aload_n hx hb dL_law_541 rfl (lv_at hl 0 rfl) ?_
  refine lv_iload_n hx hb dL_law_542 rfl (lv_at hl 3 rfl) ?_
  refine lv_iconst (v := 1) hx hb dL_law_543 (by decide) ?_
  refine lv_iadd hx hb dL_law_544 ?_
  rw [show nI (5 * i) + 1 = nI (5 * i + 1) from nI_add (5 * i) 1]
  refine va_sld hx hb hX hbl hbA hS (vp_in_nI (N := Ln) (by omega) (by omega)) dL_law_545 ?_
  rw [nI_clamp (n := 5 * i + 1) (by omega)]
  have hr2 : ∀ q, reg2 H1.size M q → s.heap.size ≤ q := fun q h => h.elim (fun ⟨t, ht, z⟩ => by rw [z]; exact hMn t ht) (fun z => Nat.le_trans hS.1 z)
  refine ct_V (As := [.int (xs (5 * i + 1))]) (rest := [.int ((k_object σ (xs (5 * i + 1))).1)]) hx hb hml hown hu hE hZ hS hr2 (fun q h => Or.inr h) (c_object l E (reg2 H1.size M) σ M (xs (5 * i + 1))) kX11_object u982 (md_obj hM1) rfl rfl ⟨md_reA hM1 (fun t ht => Or.inl ⟨t, ht, rfl⟩), hI⟩ ⟨Nat.le_of_ble_eq_true rfl, Nat.le_of_ble_eq_true rfl⟩ rfl hl.1 rfl (Nat.le_of_ble_eq_true rfl) ⟨by show _ ≤ 600000; omega, by show _ ≤ 7302250; omega⟩ dL_law_546 (fun v H2 locs2 hR hS hz hk => ?_)
  obtain ⟨rfl, hM2⟩ := hR
  have hC2 := cd_stay hC1 hk
  have hop : OpOK (k_object σ (xs (5 * i + 1))) (m_object σ (xs (5 * i + 1))) := object_eq hV
  refine lv_icmp_eq (x := (k_object σ (xs (5 * i + 1))).1) (y := (m_object σ (xs (5 * i + 1))).1) (tgt := 969) hx hb dL_law_549 (by decide) (fun _ => ?_) (fun z => absurd hop.1 z)
  exact law_next hx hb hml hown hu hE hZ hX hbl hLn h5 ih ⟨by omega, by omega⟩ (⟨(k_object σ (xs (5 * i + 1))).2, L1, hC2, md_ext (md_reA hM2 (fun _ _ => trivial)) hop.2.1, hop.2.2, hx1, rfl, hMn⟩) hS hl
set_option maxHeartbeats 4000000 in
set_option maxRecDepth 20000 in
theorem law_k12 {p : Program} {l : Launch} {e : Env} {s : State} {m : MethodId} {below : List Frame} {meth : Method} {c : Code} {b Ln x y i : Nat} {xs : Nat → Int32} {E : EV} {M : Nat → Nat} {H : Heap} {locs : List Loc} {ls : Array Slot} (hx : p.tables.exec = Jvm.exec) (hb : c.code = code) (hml : c.maxLocals = 4) (hown : s.vm.findClass R_law = some m.cls) (hu : ∀ w ∈ uw, w.before #[Value.ref b] s = true) (hE : evK E s) (hZ : evZ E (fun q => s.heap.size ≤ q) s s.heap) (hX : va_X b Ln xs s s.heap) (hbl : b < s.heap.size) (hLn : Ln ≤ 2560) (h5 : 5 * i + 5 ≤ Ln) (ih : lwIH p l e s m below meth c b x y E M (i + 1)) (hLI : LI E s.heap.size x y M H) (hS : va_S (fun q => s.heap.size ≤ q) s.heap H locs) (hl : lv_has ls 4 [(0, .ref b), (1, .ref x), (2, .ref y), (3, .int (nI (5 * i)))]) : W p l e room_1 s m #[Value.ref b] below meth c H locs (300 + 3 * i) (30000 + 500 * i) (lw_Z below #[Value.ref b] s) (F0 m 554 ls []) := by
  have hbA : ¬ s.heap.size ≤ b := by omega
  obtain ⟨σ, L, hC, hM, hV, hx0, hy0, hMn⟩ := hLI
  subst hx0
  subst hy0
  obtain ⟨hI, hL, hK, hJ, hZ_, hQ_, hKK, hO_, hD_, hF_, hW_, hN_, hB_⟩ := id hV
  have hr1 : ∀ q, H.size ≤ q → reg1 s.heap.size M q := fun q hq => ⟨Nat.le_trans hS.1 hq, fun t ht z => by have := md_lt hM ht; omega⟩
  refine lv_aload_n hx hb dL_law_554 rfl (lv_at hl 1 rfl) ?_
  by_cases cu : xs (5 * i + 2) = 0
  · refine lv_aload_n hx hb dL_law_555 rfl (lv_at hl 0 rfl) ?_
    refine lv_iload_n hx hb dL_law_556 rfl (lv_at hl 3 rfl) ?_
    refine lv_iconst (v := 1) hx hb dL_law_557 (by decide) ?_
    refine lv_iadd hx hb dL_law_558 ?_
    rw [show nI (5 * i) + 1 = nI (5 * i + 1) from nI_add (5 * i) 1]
    refine va_sld hx hb hX hbl hbA hS (vp_in_nI (N := Ln) (by omega) (by omega)) dL_law_559 ?_
    rw [nI_clamp (n := 5 * i + 1) (by omega)]
    refine lv_aload_n hx hb dL_law_560 rfl (lv_at hl 0 rfl) ?_
    refine lv_iload_n hx hb dL_law_561 rfl (lv_at hl 3 rfl) ?_
    refine lv_iconst (v := 2) hx hb dL_law_562 (by decide) ?_
    refine lv_iadd hx hb dL_law_563 ?_
    rw [show nI (5 * i) + 2 = nI (5 * i + 2) from nI_add (5 * i) 2]
    refine va_sld hx hb hX hbl hbA hS (vp_in_nI (N := Ln) (by omega) (by omega)) dL_law_564 ?_
    rw [nI_clamp (n := 5 * i + 2) (by omega)]
    refine lv_if_eq (tgt := 572) hx hb dL_law_565 (by decide) (fun _ => ?_) (fun z => absurd cu z)
    refine lv_iconst (v := 0) hx hb dL_law_572 (by decide) ?_
    refine ct_V (As := [.int (xs (5 * i + 1)), .int 0]) (rest := []) hx hb hml hown hu hE hZ hS (fun _ h => h.1) hr1 (y_judge l E (reg1 s.heap.size M) σ L (xs (5 * i + 1)) 0) kX10_judge u545 (cd_reg hC) rfl rfl (⟨hC, hI, hJ⟩) ⟨Nat.le_of_ble_eq_true rfl, Nat.le_of_ble_eq_true rfl⟩ rfl hl.1 rfl (Nat.le_of_ble_eq_true rfl) ⟨by show _ ≤ 600000; omega, by show _ ≤ 7302250; omega⟩ dL_law_573 (fun v H1 locs1 hR hS hz hk => ?_)
    obtain ⟨L1, rfl, hC1, hx1⟩ := hR
    have hM1 := md_stay hM hk
    refine lv_aload_n hx hb dL_law_576 rfl (lv_at hl 2 rfl) ?_
    refine lv_aload_n hx hb dL_law_577 rfl (lv_at hl 0 rfl) ?_
    refine lv_iload_n hx hb dL_law_578 rfl (lv_at hl 3 rfl) ?_
    refine lv_iconst (v := 1) hx hb dL_law_579 (by decide) ?_
    refine lv_iadd hx hb dL_law_580 ?_
    rw [show nI (5 * i) + 1 = nI (5 * i + 1) from nI_add (5 * i) 1]
    refine va_sld hx hb hX hbl hbA hS (vp_in_nI (N := Ln) (by omega) (by omega)) dL_law_581 ?_
    rw [nI_clamp (n := 5 * i + 1) (by omega)]
    refine lv_aload_n hx hb dL_law_582 rfl (lv_at hl 0 rfl) ?_
    refine lv_iload_n hx hb dL_law_583 rfl (lv_at hl 3 rfl) ?_
    refine lv_iconst (v := 2) hx hb dL_law_584 (by decide) ?_
    refine lv_iadd hx hb dL_law_585 ?_
    rw [show nI (5 * i) + 2 = nI (5 * i + 2) from nI_add (5 * i) 2]
    refine va_sld hx hb hX hbl hbA hS (vp_in_nI (N := Ln) (by omega) (by omega)) dL_law_586 ?_
    rw [nI_clamp (n := 5 * i + 2) (by omega)]
    refine lv_if_eq (tgt := 594) hx hb dL_law_587 (by decide) (fun _ => ?_) (fun z => absurd cu z)
    refine lv_iconst (v := 0) hx hb dL_law_594 (by decide) ?_
    have hr2 : ∀ q, reg2 H1.size M q → s.heap.size ≤ q := fun q h => h.elim (fun ⟨t, ht, z⟩ => by rw [z]; exact hMn t ht) (fun z => Nat.le_trans hS.1 z)
    refine ct_V (As := [.int (xs (5 * i + 1)), .int 0]) (rest := [.int ((k_judge σ (xs (5 * i + 1)) 0).1)]) hx hb hml hown hu hE hZ hS hr2 (fun q h => Or.inr h) (c_judge l E (reg2 H1.size M) σ M (xs (5 * i + 1)) 0) kX11_judge u986 (md_obj hM1) rfl rfl ⟨md_reA hM1 (fun t ht => Or.inl ⟨t, ht, rfl⟩), hI⟩ ⟨Nat.le_of_ble_eq_true rfl, Nat.le_of_ble_eq_true rfl⟩ rfl hl.1 rfl (Nat.le_of_ble_eq_true rfl) ⟨by show _ ≤ 600000; omega, by show _ ≤ 7302250; omega⟩ dL_law_595 (fun v H2 locs2 hR hS hz hk => ?_)
    obtain ⟨rfl, hM2⟩ := hR
    have hC2 := cd_stay hC1 hk
    have hop : OpOK (k_judge σ (xs (5 * i + 1)) 0) (m_judge σ (xs (5 * i + 1)) 0) := judge_eq hV
    refine lv_icmp_eq (x := (k_judge σ (xs (5 * i + 1)) 0).1) (y := (m_judge σ (xs (5 * i + 1)) 0).1) (tgt := 969) hx hb dL_law_598 (by decide) (fun _ => ?_) (fun z => absurd hop.1 z)
    exact law_next hx hb hml hown hu hE hZ hX hbl hLn h5 ih ⟨by omega, by omega⟩ (⟨(k_judge σ (xs (5 * i + 1)) 0).2, L1, hC2, md_ext (md_reA hM2 (fun _ _ => trivial)) hop.2.1, hop.2.2, hx1, rfl, hMn⟩) hS hl
  · refine lv_aload_n hx hb dL_law_555 rfl (lv_at hl 0 rfl) ?_
    refine lv_iload_n hx hb dL_law_556 rfl (lv_at hl 3 rfl) ?_
    refine lv_iconst (v := 1) hx hb dL_law_557 (by decide) ?_
    refine lv_iadd hx hb dL_law_558 ?_
    rw [show nI (5 * i) + 1 = nI (5 * i + 1) from nI_add (5 * i) 1]
    refine va_sld hx hb hX hbl hbA hS (vp_in_nI (N := Ln) (by omega) (by omega)) dL_law_559 ?_
    rw [nI_clamp (n := 5 * i + 1) (by omega)]
    refine lv_aload_n hx hb dL_law_560 rfl (lv_at hl 0 rfl) ?_
    refine lv_iload_n hx hb dL_law_561 rfl (lv_at hl 3 rfl) ?_
    refine lv_iconst (v := 2) hx hb dL_law_562 (by decide) ?_
    refine lv_iadd hx hb dL_law_563 ?_
    rw [show nI (5 * i) + 2 = nI (5 * i + 2) from nI_add (5 * i) 2]
    refine va_sld hx hb hX hbl hbA hS (vp_in_nI (N := Ln) (by omega) (by omega)) dL_law_564 ?_
    rw [nI_clamp (n := 5 * i + 2) (by omega)]
    refine lv_if_eq (tgt := 572) hx hb dL_law_565 (by decide) (fun z => absurd z cu) (fun _ => ?_)
    refine lv_iconst (v := 1) hx hb dL_law_568 (by decide) ?_
    refine lv_goto (tgt := 573) hx hb dL_law_569 (by decide) ?_
    refine ct_V (As := [.int (xs (5 * i + 1)), .int 1]) (rest := []) hx hb hml hown hu hE hZ hS (fun _ h => h.1) hr1 (y_judge l E (reg1 s.heap.size M) σ L (xs (5 * i + 1)) 1) kX10_judge u545 (cd_reg hC) rfl rfl (⟨hC, hI, hJ⟩) ⟨Nat.le_of_ble_eq_true rfl, Nat.le_of_ble_eq_true rfl⟩ rfl hl.1 rfl (Nat.le_of_ble_eq_true rfl) ⟨by show _ ≤ 600000; omega, by show _ ≤ 7302250; omega⟩ dL_law_573 (fun v H1 locs1 hR hS hz hk => ?_)
    obtain ⟨L1, rfl, hC1, hx1⟩ := hR
    have hM1 := md_stay hM hk
    refine lv_aload_n hx hb dL_law_576 rfl (lv_at hl 2 rfl) ?_
    refine lv_aload_n hx hb dL_law_577 rfl (lv_at hl 0 rfl) ?_
    refine lv_iload_n hx hb dL_law_578 rfl (lv_at hl 3 rfl) ?_
    refine lv_iconst (v := 1) hx hb dL_law_579 (by decide) ?_
    refine lv_iadd hx hb dL_law_580 ?_
    rw [show nI (5 * i) + 1 = nI (5 * i + 1) from nI_add (5 * i) 1]
    refine va_sld hx hb hX hbl hbA hS (vp_in_nI (N := Ln) (by omega) (by omega)) dL_law_581 ?_
    rw [nI_clamp (n := 5 * i + 1) (by omega)]
    refine lv_aload_n hx hb dL_law_582 rfl (lv_at hl 0 rfl) ?_
    refine lv_iload_n hx hb dL_law_583 rfl (lv_at hl 3 rfl) ?_
    refine lv_iconst (v := 2) hx hb dL_law_584 (by decide) ?_
    refine lv_iadd hx hb dL_law_585 ?_
    rw [show nI (5 * i) + 2 = nI (5 * i + 2) from nI_add (5 * i) 2]
    refine va_sld hx hb hX hbl hbA hS (vp_in_nI (N := Ln) (by omega) (by omega)) dL_law_586 ?_
    rw [nI_clamp (n := 5 * i + 2) (by omega)]
    refine lv_if_eq (tgt := 594) hx hb dL_law_587 (by decide) (fun z => absurd z cu) (fun _ => ?_)
    refine lv_iconst (v := 1) hx hb dL_law_590 (by decide) ?_
    refine lv_goto (tgt := 595) hx hb dL_law_591 (by decide) ?_
    have hr2 : ∀ q, reg2 H1.size M q → s.heap.size ≤ q := fun q h => h.elim (fun ⟨t, ht, z⟩ => by rw [z]; exact hMn t ht) (fun z => Nat.le_trans hS.1 z)
    refine ct_V (As := [.int (xs (5 * i + 1)), .int 1]) (rest := [.int ((k_judge σ (xs (5 * i + 1)) 1).1)]) hx hb hml hown hu hE hZ hS hr2 (fun q h => Or.inr h) (c_judge l E (reg2 H1.size M) σ M (xs (5 * i + 1)) 1) kX11_judge u986 (md_obj hM1) rfl rfl ⟨md_reA hM1 (fun t ht => Or.inl ⟨t, ht, rfl⟩), hI⟩ ⟨Nat.le_of_ble_eq_true rfl, Nat.le_of_ble_eq_true rfl⟩ rfl hl.1 rfl (Nat.le_of_ble_eq_true rfl) ⟨by show _ ≤ 600000; omega, by show _ ≤ 7302250; omega⟩ dL_law_595 (fun v H2 locs2 hR hS hz hk => ?_)
    obtain ⟨rfl, hM2⟩ := hR
    have hC2 := cd_stay hC1 hk
    have hop : OpOK (k_judge σ (xs (5 * i + 1)) 1) (m_judge σ (xs (5 * i + 1)) 1) := judge_eq hV
    refine lv_icmp_eq (x := (k_judge σ (xs (5 * i + 1)) 1).1) (y := (m_judge σ (xs (5 * i + 1)) 1).1) (tgt := 969) hx hb dL_law_598 (by decide) (fun _ => ?_) (fun z => absurd hop.1 z)
    exact law_next hx hb hml hown hu hE hZ hX hbl hLn h5 ih ⟨by omega, by omega⟩ (⟨(k_judge σ (xs (5 * i + 1)) 1).2, L1, hC2, md_ext (md_reA hM2 (fun _ _ => trivial)) hop.2.1, hop.2.2, hx1, rfl, hMn⟩) hS hl
set_option maxHeartbeats 4000000 in
set_option maxRecDepth 20000 in
theorem law_k13 {p : Program} {l : Launch} {e : Env} {s : State} {m : MethodId} {below : List Frame} {meth : Method} {c : Code} {b Ln x y i : Nat} {xs : Nat → Int32} {E : EV} {M : Nat → Nat} {H : Heap} {locs : List Loc} {ls : Array Slot} (hx : p.tables.exec = Jvm.exec) (hb : c.code = code) (hml : c.maxLocals = 4) (hown : s.vm.findClass R_law = some m.cls) (hu : ∀ w ∈ uw, w.before #[Value.ref b] s = true) (hE : evK E s) (hZ : evZ E (fun q => s.heap.size ≤ q) s s.heap) (hX : va_X b Ln xs s s.heap) (hbl : b < s.heap.size) (hLn : Ln ≤ 2560) (h5 : 5 * i + 5 ≤ Ln) (ih : lwIH p l e s m below meth c b x y E M (i + 1)) (hLI : LI E s.heap.size x y M H) (hS : va_S (fun q => s.heap.size ≤ q) s.heap H locs) (hl : lv_has ls 4 [(0, .ref b), (1, .ref x), (2, .ref y), (3, .int (nI (5 * i)))]) : W p l e room_1 s m #[Value.ref b] below meth c H locs (300 + 3 * i) (30000 + 500 * i) (lw_Z below #[Value.ref b] s) (F0 m 603 ls []) := by
  have hbA : ¬ s.heap.size ≤ b := by omega
  obtain ⟨σ, L, hC, hM, hV, hx0, hy0, hMn⟩ := hLI
  subst hx0
  subst hy0
  obtain ⟨hI, hL, hK, hJ, hZ_, hQ_, hKK, hO_, hD_, hF_, hW_, hN_, hB_⟩ := id hV
  have hr1 : ∀ q, H.size ≤ q → reg1 s.heap.size M q := fun q hq => ⟨Nat.le_trans hS.1 hq, fun t ht z => by have := md_lt hM ht; omega⟩
  refine lv_aload_n hx hb dL_law_603 rfl (lv_at hl 1 rfl) ?_
  refine lv_aload_n hx hb dL_law_604 rfl (lv_at hl 0 rfl) ?_
  refine lv_iload_n hx hb dL_law_605 rfl (lv_at hl 3 rfl) ?_
  refine lv_iconst (v := 1) hx hb dL_law_606 (by decide) ?_
  refine lv_iadd hx hb dL_law_607 ?_
  rw [show nI (5 * i) + 1 = nI (5 * i + 1) from nI_add (5 * i) 1]
  refine va_sld hx hb hX hbl hbA hS (vp_in_nI (N := Ln) (by omega) (by omega)) dL_law_608 ?_
  rw [nI_clamp (n := 5 * i + 1) (by omega)]
  refine ct_V (As := [.int (xs (5 * i + 1))]) (rest := []) hx hb hml hown hu hE hZ hS (fun _ h => h.1) hr1 (y_registrar l E (reg1 s.heap.size M) σ L (xs (5 * i + 1))) kX10_registrar u549 (cd_reg hC) rfl rfl (⟨hC, hI⟩) ⟨Nat.le_of_ble_eq_true rfl, Nat.le_of_ble_eq_true rfl⟩ rfl hl.1 rfl (Nat.le_of_ble_eq_true rfl) ⟨by show _ ≤ 600000; omega, by show _ ≤ 7302250; omega⟩ dL_law_609 (fun v H1 locs1 hR hS hz hk => ?_)
  obtain ⟨L1, rfl, hC1, hx1⟩ := hR
  have hM1 := md_stay hM hk
  refine lv_aload_n hx hb dL_law_612 rfl (lv_at hl 2 rfl) ?_
  refine lv_aload_n hx hb dL_law_613 rfl (lv_at hl 0 rfl) ?_
  refine lv_iload_n hx hb dL_law_614 rfl (lv_at hl 3 rfl) ?_
  refine lv_iconst (v := 1) hx hb dL_law_615 (by decide) ?_
  refine lv_iadd hx hb dL_law_616 ?_
  rw [show nI (5 * i) + 1 = nI (5 * i + 1) from nI_add (5 * i) 1]
  refine va_sld hx hb hX hbl hbA hS (vp_in_nI (N := Ln) (by omega) (by omega)) dL_law_617 ?_
  rw [nI_clamp (n := 5 * i + 1) (by omega)]
  have hr2 : ∀ q, reg2 H1.size M q → s.heap.size ≤ q := fun q h => h.elim (fun ⟨t, ht, z⟩ => by rw [z]; exact hMn t ht) (fun z => Nat.le_trans hS.1 z)
  refine ct_V (As := [.int (xs (5 * i + 1))]) (rest := [.int ((k_registrar σ (xs (5 * i + 1))).1)]) hx hb hml hown hu hE hZ hS hr2 (fun q h => Or.inr h) (c_registrar l E (reg2 H1.size M) σ M (xs (5 * i + 1))) kX11_registrar u990 (md_obj hM1) rfl rfl ⟨md_reA hM1 (fun t ht => Or.inl ⟨t, ht, rfl⟩), hI⟩ ⟨Nat.le_of_ble_eq_true rfl, Nat.le_of_ble_eq_true rfl⟩ rfl hl.1 rfl (Nat.le_of_ble_eq_true rfl) ⟨by show _ ≤ 600000; omega, by show _ ≤ 7302250; omega⟩ dL_law_618 (fun v H2 locs2 hR hS hz hk => ?_)
  obtain ⟨rfl, hM2⟩ := hR
  have hC2 := cd_stay hC1 hk
  have hop : OpOK (k_registrar σ (xs (5 * i + 1))) (m_registrar σ (xs (5 * i + 1))) := registrar_eq hV
  refine lv_icmp_eq (x := (k_registrar σ (xs (5 * i + 1))).1) (y := (m_registrar σ (xs (5 * i + 1))).1) (tgt := 969) hx hb dL_law_621 (by decide) (fun _ => ?_) (fun z => absurd hop.1 z)
  exact law_next hx hb hml hown hu hE hZ hX hbl hLn h5 ih ⟨by omega, by omega⟩ (⟨(k_registrar σ (xs (5 * i + 1))).2, L1, hC2, md_ext (md_reA hM2 (fun _ _ => trivial)) hop.2.1, hop.2.2, hx1, rfl, hMn⟩) hS hl
set_option maxHeartbeats 4000000 in
set_option maxRecDepth 20000 in
theorem law_k14 {p : Program} {l : Launch} {e : Env} {s : State} {m : MethodId} {below : List Frame} {meth : Method} {c : Code} {b Ln x y i : Nat} {xs : Nat → Int32} {E : EV} {M : Nat → Nat} {H : Heap} {locs : List Loc} {ls : Array Slot} (hx : p.tables.exec = Jvm.exec) (hb : c.code = code) (hml : c.maxLocals = 4) (hown : s.vm.findClass R_law = some m.cls) (hu : ∀ w ∈ uw, w.before #[Value.ref b] s = true) (hE : evK E s) (hZ : evZ E (fun q => s.heap.size ≤ q) s s.heap) (hX : va_X b Ln xs s s.heap) (hbl : b < s.heap.size) (hLn : Ln ≤ 2560) (h5 : 5 * i + 5 ≤ Ln) (ih : lwIH p l e s m below meth c b x y E M (i + 1)) (hLI : LI E s.heap.size x y M H) (hS : va_S (fun q => s.heap.size ≤ q) s.heap H locs) (hl : lv_has ls 4 [(0, .ref b), (1, .ref x), (2, .ref y), (3, .int (nI (5 * i)))]) : W p l e room_1 s m #[Value.ref b] below meth c H locs (300 + 3 * i) (30000 + 500 * i) (lw_Z below #[Value.ref b] s) (F0 m 626 ls []) := by
  have hbA : ¬ s.heap.size ≤ b := by omega
  obtain ⟨σ, L, hC, hM, hV, hx0, hy0, hMn⟩ := hLI
  subst hx0
  subst hy0
  obtain ⟨hI, hL, hK, hJ, hZ_, hQ_, hKK, hO_, hD_, hF_, hW_, hN_, hB_⟩ := id hV
  have hr1 : ∀ q, H.size ≤ q → reg1 s.heap.size M q := fun q hq => ⟨Nat.le_trans hS.1 hq, fun t ht z => by have := md_lt hM ht; omega⟩
  refine lv_aload_n hx hb dL_law_626 rfl (lv_at hl 1 rfl) ?_
  refine lv_aload_n hx hb dL_law_627 rfl (lv_at hl 0 rfl) ?_
  refine lv_iload_n hx hb dL_law_628 rfl (lv_at hl 3 rfl) ?_
  refine lv_iconst (v := 1) hx hb dL_law_629 (by decide) ?_
  refine lv_iadd hx hb dL_law_630 ?_
  rw [show nI (5 * i) + 1 = nI (5 * i + 1) from nI_add (5 * i) 1]
  refine va_sld hx hb hX hbl hbA hS (vp_in_nI (N := Ln) (by omega) (by omega)) dL_law_631 ?_
  rw [nI_clamp (n := 5 * i + 1) (by omega)]
  refine lv_aload_n hx hb dL_law_632 rfl (lv_at hl 0 rfl) ?_
  refine lv_iload_n hx hb dL_law_633 rfl (lv_at hl 3 rfl) ?_
  refine lv_iconst (v := 2) hx hb dL_law_634 (by decide) ?_
  refine lv_iadd hx hb dL_law_635 ?_
  rw [show nI (5 * i) + 2 = nI (5 * i + 2) from nI_add (5 * i) 2]
  refine va_sld hx hb hX hbl hbA hS (vp_in_nI (N := Ln) (by omega) (by omega)) dL_law_636 ?_
  rw [nI_clamp (n := 5 * i + 2) (by omega)]
  refine lv_aload_n hx hb dL_law_637 rfl (lv_at hl 0 rfl) ?_
  refine lv_iload_n hx hb dL_law_638 rfl (lv_at hl 3 rfl) ?_
  refine lv_iconst (v := 3) hx hb dL_law_639 (by decide) ?_
  refine lv_iadd hx hb dL_law_640 ?_
  rw [show nI (5 * i) + 3 = nI (5 * i + 3) from nI_add (5 * i) 3]
  refine va_sld hx hb hX hbl hbA hS (vp_in_nI (N := Ln) (by omega) (by omega)) dL_law_641 ?_
  rw [nI_clamp (n := 5 * i + 3) (by omega)]
  refine ct_V (As := [.int (xs (5 * i + 1)), .int (xs (5 * i + 2)), .int (xs (5 * i + 3))]) (rest := []) hx hb hml hown hu hE hZ hS (fun _ h => h.1) hr1 (y_book l E (reg1 s.heap.size M) σ L (xs (5 * i + 1)) (xs (5 * i + 2)) (xs (5 * i + 3))) kX10_book u553 (cd_reg hC) rfl rfl (⟨hC, hI, hL⟩) ⟨Nat.le_of_ble_eq_true rfl, Nat.le_of_ble_eq_true rfl⟩ rfl hl.1 rfl (Nat.le_of_ble_eq_true rfl) ⟨by show _ ≤ 600000; omega, by show _ ≤ 7302250; omega⟩ dL_law_642 (fun v H1 locs1 hR hS hz hk => ?_)
  obtain ⟨L1, rfl, hC1, hx1⟩ := hR
  have hM1 := md_stay hM hk
  refine lv_aload_n hx hb dL_law_645 rfl (lv_at hl 2 rfl) ?_
  refine lv_aload_n hx hb dL_law_646 rfl (lv_at hl 0 rfl) ?_
  refine lv_iload_n hx hb dL_law_647 rfl (lv_at hl 3 rfl) ?_
  refine lv_iconst (v := 1) hx hb dL_law_648 (by decide) ?_
  refine lv_iadd hx hb dL_law_649 ?_
  rw [show nI (5 * i) + 1 = nI (5 * i + 1) from nI_add (5 * i) 1]
  refine va_sld hx hb hX hbl hbA hS (vp_in_nI (N := Ln) (by omega) (by omega)) dL_law_650 ?_
  rw [nI_clamp (n := 5 * i + 1) (by omega)]
  refine lv_aload_n hx hb dL_law_651 rfl (lv_at hl 0 rfl) ?_
  refine lv_iload_n hx hb dL_law_652 rfl (lv_at hl 3 rfl) ?_
  refine lv_iconst (v := 2) hx hb dL_law_653 (by decide) ?_
  refine lv_iadd hx hb dL_law_654 ?_
  rw [show nI (5 * i) + 2 = nI (5 * i + 2) from nI_add (5 * i) 2]
  refine va_sld hx hb hX hbl hbA hS (vp_in_nI (N := Ln) (by omega) (by omega)) dL_law_655 ?_
  rw [nI_clamp (n := 5 * i + 2) (by omega)]
  refine lv_aload_n hx hb dL_law_656 rfl (lv_at hl 0 rfl) ?_
  refine lv_iload_n hx hb dL_law_657 rfl (lv_at hl 3 rfl) ?_
  refine lv_iconst (v := 3) hx hb dL_law_658 (by decide) ?_
  refine lv_iadd hx hb dL_law_659 ?_
  rw [show nI (5 * i) + 3 = nI (5 * i + 3) from nI_add (5 * i) 3]
  refine va_sld hx hb hX hbl hbA hS (vp_in_nI (N := Ln) (by omega) (by omega)) dL_law_660 ?_
  rw [nI_clamp (n := 5 * i + 3) (by omega)]
  have hr2 : ∀ q, reg2 H1.size M q → s.heap.size ≤ q := fun q h => h.elim (fun ⟨t, ht, z⟩ => by rw [z]; exact hMn t ht) (fun z => Nat.le_trans hS.1 z)
  refine ct_V (As := [.int (xs (5 * i + 1)), .int (xs (5 * i + 2)), .int (xs (5 * i + 3))]) (rest := [.int ((k_book σ (xs (5 * i + 1)) (xs (5 * i + 2)) (xs (5 * i + 3))).1)]) hx hb hml hown hu hE hZ hS hr2 (fun q h => Or.inr h) (c_book l E (reg2 H1.size M) σ M (xs (5 * i + 1)) (xs (5 * i + 2)) (xs (5 * i + 3))) kX11_book u994 (md_obj hM1) rfl rfl ⟨md_reA hM1 (fun t ht => Or.inl ⟨t, ht, rfl⟩), hI⟩ ⟨Nat.le_of_ble_eq_true rfl, Nat.le_of_ble_eq_true rfl⟩ rfl hl.1 rfl (Nat.le_of_ble_eq_true rfl) ⟨by show _ ≤ 600000; omega, by show _ ≤ 7302250; omega⟩ dL_law_661 (fun v H2 locs2 hR hS hz hk => ?_)
  obtain ⟨rfl, hM2⟩ := hR
  have hC2 := cd_stay hC1 hk
  have hop : OpOK (k_book σ (xs (5 * i + 1)) (xs (5 * i + 2)) (xs (5 * i + 3))) (m_bookR σ (xs (5 * i + 1)) (xs (5 * i + 2)) (xs (5 * i + 3))) := ⟨by rw [book_eq hV |>.1], fun t _ => by rw [book_eq hV |>.1], (book_eq hV).2⟩
  refine lv_icmp_eq (x := (k_book σ (xs (5 * i + 1)) (xs (5 * i + 2)) (xs (5 * i + 3))).1) (y := (m_bookR σ (xs (5 * i + 1)) (xs (5 * i + 2)) (xs (5 * i + 3))).1) (tgt := 969) hx hb dL_law_664 (by decide) (fun _ => ?_) (fun z => absurd hop.1 z)
  exact law_next hx hb hml hown hu hE hZ hX hbl hLn h5 ih ⟨by omega, by omega⟩ (⟨(k_book σ (xs (5 * i + 1)) (xs (5 * i + 2)) (xs (5 * i + 3))).2, L1, hC2, md_ext (md_reA hM2 (fun _ _ => trivial)) hop.2.1, hop.2.2, hx1, rfl, hMn⟩) hS hl
set_option maxHeartbeats 4000000 in
set_option maxRecDepth 20000 in
theorem law_k15 {p : Program} {l : Launch} {e : Env} {s : State} {m : MethodId} {below : List Frame} {meth : Method} {c : Code} {b Ln x y i : Nat} {xs : Nat → Int32} {E : EV} {M : Nat → Nat} {H : Heap} {locs : List Loc} {ls : Array Slot} (hx : p.tables.exec = Jvm.exec) (hb : c.code = code) (hml : c.maxLocals = 4) (hown : s.vm.findClass R_law = some m.cls) (hu : ∀ w ∈ uw, w.before #[Value.ref b] s = true) (hE : evK E s) (hZ : evZ E (fun q => s.heap.size ≤ q) s s.heap) (hX : va_X b Ln xs s s.heap) (hbl : b < s.heap.size) (hLn : Ln ≤ 2560) (h5 : 5 * i + 5 ≤ Ln) (ih : lwIH p l e s m below meth c b x y E M (i + 1)) (hLI : LI E s.heap.size x y M H) (hS : va_S (fun q => s.heap.size ≤ q) s.heap H locs) (hl : lv_has ls 4 [(0, .ref b), (1, .ref x), (2, .ref y), (3, .int (nI (5 * i)))]) : W p l e room_1 s m #[Value.ref b] below meth c H locs (300 + 3 * i) (30000 + 500 * i) (lw_Z below #[Value.ref b] s) (F0 m 669 ls []) := by
  have hbA : ¬ s.heap.size ≤ b := by omega
  obtain ⟨σ, L, hC, hM, hV, hx0, hy0, hMn⟩ := hLI
  subst hx0
  subst hy0
  obtain ⟨hI, hL, hK, hJ, hZ_, hQ_, hKK, hO_, hD_, hF_, hW_, hN_, hB_⟩ := id hV
  have hr1 : ∀ q, H.size ≤ q → reg1 s.heap.size M q := fun q hq => ⟨Nat.le_trans hS.1 hq, fun t ht z => by have := md_lt hM ht; omega⟩
  refine lv_aload_n hx hb dL_law_669 rfl (lv_at hl 1 rfl) ?_
  refine lv_aload_n hx hb dL_law_670 rfl (lv_at hl 0 rfl) ?_
  refine lv_iload_n hx hb dL_law_671 rfl (lv_at hl 3 rfl) ?_
  refine lv_iconst (v := 1) hx hb dL_law_672 (by decide) ?_
  refine lv_iadd hx hb dL_law_673 ?_
  rw [show nI (5 * i) + 1 = nI (5 * i + 1) from nI_add (5 * i) 1]
  refine va_sld hx hb hX hbl hbA hS (vp_in_nI (N := Ln) (by omega) (by omega)) dL_law_674 ?_
  rw [nI_clamp (n := 5 * i + 1) (by omega)]
  refine ct_V (As := [.int (xs (5 * i + 1))]) (rest := []) hx hb hml hown hu hE hZ hS (fun _ h => h.1) hr1 (y_order l E (reg1 s.heap.size M) σ L (xs (5 * i + 1))) kX10_order u628 (cd_reg hC) rfl rfl (⟨hC, hI, hL, hK⟩) ⟨Nat.le_of_ble_eq_true rfl, Nat.le_of_ble_eq_true rfl⟩ rfl hl.1 rfl (Nat.le_of_ble_eq_true rfl) ⟨by show _ ≤ 600000; omega, by show _ ≤ 7302250; omega⟩ dL_law_675 (fun v H1 locs1 hR hS hz hk => ?_)
  obtain ⟨L1, rfl, hC1, hx1⟩ := hR
  have hM1 := md_stay hM hk
  refine lv_aload_n hx hb dL_law_678 rfl (lv_at hl 2 rfl) ?_
  refine lv_aload_n hx hb dL_law_679 rfl (lv_at hl 0 rfl) ?_
  refine lv_iload_n hx hb dL_law_680 rfl (lv_at hl 3 rfl) ?_
  refine lv_iconst (v := 1) hx hb dL_law_681 (by decide) ?_
  refine lv_iadd hx hb dL_law_682 ?_
  rw [show nI (5 * i) + 1 = nI (5 * i + 1) from nI_add (5 * i) 1]
  refine va_sld hx hb hX hbl hbA hS (vp_in_nI (N := Ln) (by omega) (by omega)) dL_law_683 ?_
  rw [nI_clamp (n := 5 * i + 1) (by omega)]
  have hr2 : ∀ q, reg2 H1.size M q → s.heap.size ≤ q := fun q h => h.elim (fun ⟨t, ht, z⟩ => by rw [z]; exact hMn t ht) (fun z => Nat.le_trans hS.1 z)
  refine ct_V (As := [.int (xs (5 * i + 1))]) (rest := [.int ((k_order σ (xs (5 * i + 1))).1)]) hx hb hml hown hu hE hZ hS hr2 (fun q h => Or.inr h) (c_order l E (reg2 H1.size M) σ M (xs (5 * i + 1))) kX11_order u1010 (md_obj hM1) rfl rfl ⟨md_reA hM1 (fun t ht => Or.inl ⟨t, ht, rfl⟩), hI⟩ ⟨Nat.le_of_ble_eq_true rfl, Nat.le_of_ble_eq_true rfl⟩ rfl hl.1 rfl (Nat.le_of_ble_eq_true rfl) ⟨by show _ ≤ 600000; omega, by show _ ≤ 7302250; omega⟩ dL_law_684 (fun v H2 locs2 hR hS hz hk => ?_)
  obtain ⟨rfl, hM2⟩ := hR
  have hC2 := cd_stay hC1 hk
  have hop : OpOK (k_order σ (xs (5 * i + 1))) (m_order σ (xs (5 * i + 1))) := ⟨by rw [order_eq hV |>.1], fun t _ => by rw [order_eq hV |>.1], (order_eq hV).2⟩
  refine lv_icmp_eq (x := (k_order σ (xs (5 * i + 1))).1) (y := (m_order σ (xs (5 * i + 1))).1) (tgt := 969) hx hb dL_law_687 (by decide) (fun _ => ?_) (fun z => absurd hop.1 z)
  exact law_next hx hb hml hown hu hE hZ hX hbl hLn h5 ih ⟨by omega, by omega⟩ (⟨(k_order σ (xs (5 * i + 1))).2, L1, hC2, md_ext (md_reA hM2 (fun _ _ => trivial)) hop.2.1, hop.2.2, hx1, rfl, hMn⟩) hS hl
set_option maxHeartbeats 4000000 in
set_option maxRecDepth 20000 in
theorem law_k16 {p : Program} {l : Launch} {e : Env} {s : State} {m : MethodId} {below : List Frame} {meth : Method} {c : Code} {b Ln x y i : Nat} {xs : Nat → Int32} {E : EV} {M : Nat → Nat} {H : Heap} {locs : List Loc} {ls : Array Slot} (hx : p.tables.exec = Jvm.exec) (hb : c.code = code) (hml : c.maxLocals = 4) (hown : s.vm.findClass R_law = some m.cls) (hu : ∀ w ∈ uw, w.before #[Value.ref b] s = true) (hE : evK E s) (hZ : evZ E (fun q => s.heap.size ≤ q) s s.heap) (hX : va_X b Ln xs s s.heap) (hbl : b < s.heap.size) (hLn : Ln ≤ 2560) (h5 : 5 * i + 5 ≤ Ln) (ih : lwIH p l e s m below meth c b x y E M (i + 1)) (hLI : LI E s.heap.size x y M H) (hS : va_S (fun q => s.heap.size ≤ q) s.heap H locs) (hl : lv_has ls 4 [(0, .ref b), (1, .ref x), (2, .ref y), (3, .int (nI (5 * i)))]) : W p l e room_1 s m #[Value.ref b] below meth c H locs (300 + 3 * i) (30000 + 500 * i) (lw_Z below #[Value.ref b] s) (F0 m 692 ls []) := by
  have hbA : ¬ s.heap.size ≤ b := by omega
  obtain ⟨σ, L, hC, hM, hV, hx0, hy0, hMn⟩ := hLI
  subst hx0
  subst hy0
  obtain ⟨hI, hL, hK, hJ, hZ_, hQ_, hKK, hO_, hD_, hF_, hW_, hN_, hB_⟩ := id hV
  have hr1 : ∀ q, H.size ≤ q → reg1 s.heap.size M q := fun q hq => ⟨Nat.le_trans hS.1 hq, fun t ht z => by have := md_lt hM ht; omega⟩
  refine lv_aload_n hx hb dL_law_692 rfl (lv_at hl 1 rfl) ?_
  refine lv_aload_n hx hb dL_law_693 rfl (lv_at hl 0 rfl) ?_
  refine lv_iload_n hx hb dL_law_694 rfl (lv_at hl 3 rfl) ?_
  refine lv_iconst (v := 1) hx hb dL_law_695 (by decide) ?_
  refine lv_iadd hx hb dL_law_696 ?_
  rw [show nI (5 * i) + 1 = nI (5 * i + 1) from nI_add (5 * i) 1]
  refine va_sld hx hb hX hbl hbA hS (vp_in_nI (N := Ln) (by omega) (by omega)) dL_law_697 ?_
  rw [nI_clamp (n := 5 * i + 1) (by omega)]
  refine ct_V (As := [.int (xs (5 * i + 1))]) (rest := []) hx hb hml hown hu hE hZ hS (fun _ h => h.1) hr1 (y_wed l E (reg1 s.heap.size M) σ L (xs (5 * i + 1))) kX10_wed u643 (cd_reg hC) rfl rfl (⟨hC, hI, hK, hJ, hL, inv_E hI hW_⟩) ⟨Nat.le_of_ble_eq_true rfl, Nat.le_of_ble_eq_true rfl⟩ rfl hl.1 rfl (Nat.le_of_ble_eq_true rfl) ⟨by show _ ≤ 600000; omega, by show _ ≤ 7302250; omega⟩ dL_law_698 (fun v H1 locs1 hR hS hz hk => ?_)
  obtain ⟨L1, rfl, hC1, hx1⟩ := hR
  have hM1 := md_stay hM hk
  refine lv_aload_n hx hb dL_law_701 rfl (lv_at hl 2 rfl) ?_
  refine lv_aload_n hx hb dL_law_702 rfl (lv_at hl 0 rfl) ?_
  refine lv_iload_n hx hb dL_law_703 rfl (lv_at hl 3 rfl) ?_
  refine lv_iconst (v := 1) hx hb dL_law_704 (by decide) ?_
  refine lv_iadd hx hb dL_law_705 ?_
  rw [show nI (5 * i) + 1 = nI (5 * i + 1) from nI_add (5 * i) 1]
  refine va_sld hx hb hX hbl hbA hS (vp_in_nI (N := Ln) (by omega) (by omega)) dL_law_706 ?_
  rw [nI_clamp (n := 5 * i + 1) (by omega)]
  have hr2 : ∀ q, reg2 H1.size M q → s.heap.size ≤ q := fun q h => h.elim (fun ⟨t, ht, z⟩ => by rw [z]; exact hMn t ht) (fun z => Nat.le_trans hS.1 z)
  refine ct_V (As := [.int (xs (5 * i + 1))]) (rest := [.int ((k_wed σ (xs (5 * i + 1))).1)]) hx hb hml hown hu hE hZ hS hr2 (fun q h => Or.inr h) (c_wed l E (reg2 H1.size M) σ M (xs (5 * i + 1))) kX11_wed u1018 (md_obj hM1) rfl rfl ⟨md_reA hM1 (fun t ht => Or.inl ⟨t, ht, rfl⟩), hI⟩ ⟨Nat.le_of_ble_eq_true rfl, Nat.le_of_ble_eq_true rfl⟩ rfl hl.1 rfl (Nat.le_of_ble_eq_true rfl) ⟨by show _ ≤ 600000; omega, by show _ ≤ 7302250; omega⟩ dL_law_707 (fun v H2 locs2 hR hS hz hk => ?_)
  obtain ⟨rfl, hM2⟩ := hR
  have hC2 := cd_stay hC1 hk
  have hop : OpOK (k_wed σ (xs (5 * i + 1))) (m_wed σ (xs (5 * i + 1))) := wed_eq hV
  refine lv_icmp_eq (x := (k_wed σ (xs (5 * i + 1))).1) (y := (m_wed σ (xs (5 * i + 1))).1) (tgt := 969) hx hb dL_law_710 (by decide) (fun _ => ?_) (fun z => absurd hop.1 z)
  exact law_next hx hb hml hown hu hE hZ hX hbl hLn h5 ih ⟨by omega, by omega⟩ (⟨(k_wed σ (xs (5 * i + 1))).2, L1, hC2, md_ext (md_reA hM2 (fun _ _ => trivial)) hop.2.1, hop.2.2, hx1, rfl, hMn⟩) hS hl
