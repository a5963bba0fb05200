set_option maxHeartbeats 4000000 in
set_option maxRecDepth 20000 in
theorem law_k17 {p : Program} {l : Launch} {e : Env} {s : State} {m : MethodId} {below : List Frame} {meth : Method} {c : Code} {b Ln x y i : Nat} {xs : Nat → Int32} {E : EV} {M : Nat → Nat} {H : Heap} {locs : List Loc} {ls : Array Slot} (hx : p.tables.exec = Jvm.exec) (hb : c.code = code) (hml : c.maxLocals = 4) (hown : s.vm.findClass R_law = some m.cls) (hu : ∀ w ∈ uw, w.before #[Value.ref b] s = true) (hE : evK E s) (hZ : evZ E (fun q => s.heap.size ≤ q) s s.heap) (hX : va_X b Ln xs s s.heap) (hbl : b < s.heap.size) (hLn : Ln ≤ 2560) (h5 : 5 * i + 5 ≤ Ln) (ih : lwIH p l e s m below meth c b x y E M (i + 1)) (hLI : LI E s.heap.size x y M H) (hS : va_S (fun q => s.heap.size ≤ q) s.heap H locs) (hl : lv_has ls 4 [(0, .ref b), (1, .ref x), (2, .ref y), (3, .int (nI (5 * i)))]) : W p l e room_1 s m #[Value.ref b] below meth c H locs (300 + 3 * i) (30000 + 500 * i) (lw_Z below #[Value.ref b] s) (F0 m 715 ls []) := by
  have hbA : ¬ s.heap.size ≤ b := by omega
  obtain ⟨σ, L, hC, hM, hV, hx0, hy0, hMn⟩ := hLI
  subst hx0
  subst hy0
  obtain ⟨hI, hL, hK, hJ, hZ_, hQ_, hKK, hO_, hD_, hF_, hW_, hN_, hB_⟩ := id hV
  have hr1 : ∀ q, H.size ≤ q → reg1 s.heap.size M q := fun q hq => ⟨Nat.le_trans hS.1 hq, fun t ht z => by have := md_lt hM ht; omega⟩
  refine lv_aload_n hx hb dL_law_715 rfl (lv_at hl 1 rfl) ?_
  refine lv_aload_n hx hb dL_law_716 rfl (lv_at hl 0 rfl) ?_
  refine lv_iload_n hx hb dL_law_717 rfl (lv_at hl 3 rfl) ?_
  refine lv_iconst (v := 1) hx hb dL_law_718 (by decide) ?_
  refine lv_iadd hx hb dL_law_719 ?_
  rw [show nI (5 * i) + 1 = nI (5 * i + 1) from nI_add (5 * i) 1]
  refine va_sld hx hb hX hbl hbA hS (vp_in_nI (N := Ln) (by omega) (by omega)) dL_law_720 ?_
  rw [nI_clamp (n := 5 * i + 1) (by omega)]
  refine ct_V (As := [.int (xs (5 * i + 1))]) (rest := []) hx hb hml hown hu hE hZ hS (fun _ h => h.1) hr1 (y_part l E (reg1 s.heap.size M) σ L (xs (5 * i + 1))) kX10_part u678 (cd_reg hC) rfl rfl (⟨hC, hI⟩) ⟨Nat.le_of_ble_eq_true rfl, Nat.le_of_ble_eq_true rfl⟩ rfl hl.1 rfl (Nat.le_of_ble_eq_true rfl) ⟨by show _ ≤ 600000; omega, by show _ ≤ 7302250; omega⟩ dL_law_721 (fun v H1 locs1 hR hS hz hk => ?_)
  obtain ⟨L1, rfl, hC1, hx1⟩ := hR
  have hM1 := md_stay hM hk
  refine lv_aload_n hx hb dL_law_724 rfl (lv_at hl 2 rfl) ?_
  refine lv_aload_n hx hb dL_law_725 rfl (lv_at hl 0 rfl) ?_
  refine lv_iload_n hx hb dL_law_726 rfl (lv_at hl 3 rfl) ?_
  refine lv_iconst (v := 1) hx hb dL_law_727 (by decide) ?_
  refine lv_iadd hx hb dL_law_728 ?_
  rw [show nI (5 * i) + 1 = nI (5 * i + 1) from nI_add (5 * i) 1]
  refine va_sld hx hb hX hbl hbA hS (vp_in_nI (N := Ln) (by omega) (by omega)) dL_law_729 ?_
  rw [nI_clamp (n := 5 * i + 1) (by omega)]
  have hr2 : ∀ q, reg2 H1.size M q → s.heap.size ≤ q := fun q h => h.elim (fun ⟨t, ht, z⟩ => by rw [z]; exact hMn t ht) (fun z => Nat.le_trans hS.1 z)
  refine ct_V (As := [.int (xs (5 * i + 1))]) (rest := [.int ((k_part σ (xs (5 * i + 1))).1)]) hx hb hml hown hu hE hZ hS hr2 (fun q h => Or.inr h) (c_part l E (reg2 H1.size M) σ M (xs (5 * i + 1))) kX11_part u1022 (md_obj hM1) rfl rfl ⟨md_reA hM1 (fun t ht => Or.inl ⟨t, ht, rfl⟩), hI⟩ ⟨Nat.le_of_ble_eq_true rfl, Nat.le_of_ble_eq_true rfl⟩ rfl hl.1 rfl (Nat.le_of_ble_eq_true rfl) ⟨by show _ ≤ 600000; omega, by show _ ≤ 7302250; omega⟩ dL_law_730 (fun v H2 locs2 hR hS hz hk => ?_)
  obtain ⟨rfl, hM2⟩ := hR
  have hC2 := cd_stay hC1 hk
  have hop : OpOK (k_part σ (xs (5 * i + 1))) (m_part σ (xs (5 * i + 1))) := part_eq hV
  refine lv_icmp_eq (x := (k_part σ (xs (5 * i + 1))).1) (y := (m_part σ (xs (5 * i + 1))).1) (tgt := 969) hx hb dL_law_733 (by decide) (fun _ => ?_) (fun z => absurd hop.1 z)
  exact law_next hx hb hml hown hu hE hZ hX hbl hLn h5 ih ⟨by omega, by omega⟩ (⟨(k_part σ (xs (5 * i + 1))).2, L1, hC2, md_ext (md_reA hM2 (fun _ _ => trivial)) hop.2.1, hop.2.2, hx1, rfl, hMn⟩) hS hl
set_option maxHeartbeats 4000000 in
set_option maxRecDepth 20000 in
theorem law_k18 {p : Program} {l : Launch} {e : Env} {s : State} {m : MethodId} {below : List Frame} {meth : Method} {c : Code} {b Ln x y i : Nat} {xs : Nat → Int32} {E : EV} {M : Nat → Nat} {H : Heap} {locs : List Loc} {ls : Array Slot} (hx : p.tables.exec = Jvm.exec) (hb : c.code = code) (hml : c.maxLocals = 4) (hown : s.vm.findClass R_law = some m.cls) (hu : ∀ w ∈ uw, w.before #[Value.ref b] s = true) (hE : evK E s) (hZ : evZ E (fun q => s.heap.size ≤ q) s s.heap) (hX : va_X b Ln xs s s.heap) (hbl : b < s.heap.size) (hLn : Ln ≤ 2560) (h5 : 5 * i + 5 ≤ Ln) (ih : lwIH p l e s m below meth c b x y E M (i + 1)) (hLI : LI E s.heap.size x y M H) (hS : va_S (fun q => s.heap.size ≤ q) s.heap H locs) (hl : lv_has ls 4 [(0, .ref b), (1, .ref x), (2, .ref y), (3, .int (nI (5 * i)))]) : W p l e room_1 s m #[Value.ref b] below meth c H locs (300 + 3 * i) (30000 + 500 * i) (lw_Z below #[Value.ref b] s) (F0 m 738 ls []) := by
  have hbA : ¬ s.heap.size ≤ b := by omega
  obtain ⟨σ, L, hC, hM, hV, hx0, hy0, hMn⟩ := hLI
  subst hx0
  subst hy0
  obtain ⟨hI, hL, hK, hJ, hZ_, hQ_, hKK, hO_, hD_, hF_, hW_, hN_, hB_⟩ := id hV
  have hr1 : ∀ q, H.size ≤ q → reg1 s.heap.size M q := fun q hq => ⟨Nat.le_trans hS.1 hq, fun t ht z => by have := md_lt hM ht; omega⟩
  refine lv_aload_n hx hb dL_law_738 rfl (lv_at hl 1 rfl) ?_
  refine lv_aload_n hx hb dL_law_739 rfl (lv_at hl 0 rfl) ?_
  refine lv_iload_n hx hb dL_law_740 rfl (lv_at hl 3 rfl) ?_
  refine lv_iconst (v := 1) hx hb dL_law_741 (by decide) ?_
  refine lv_iadd hx hb dL_law_742 ?_
  rw [show nI (5 * i) + 1 = nI (5 * i + 1) from nI_add (5 * i) 1]
  refine va_sld hx hb hX hbl hbA hS (vp_in_nI (N := Ln) (by omega) (by omega)) dL_law_743 ?_
  rw [nI_clamp (n := 5 * i + 1) (by omega)]
  refine lv_aload_n hx hb dL_law_744 rfl (lv_at hl 0 rfl) ?_
  refine lv_iload_n hx hb dL_law_745 rfl (lv_at hl 3 rfl) ?_
  refine lv_iconst (v := 2) hx hb dL_law_746 (by decide) ?_
  refine lv_iadd hx hb dL_law_747 ?_
  rw [show nI (5 * i) + 2 = nI (5 * i + 2) from nI_add (5 * i) 2]
  refine va_sld hx hb hX hbl hbA hS (vp_in_nI (N := Ln) (by omega) (by omega)) dL_law_748 ?_
  rw [nI_clamp (n := 5 * i + 2) (by omega)]
  refine lv_aload_n hx hb dL_law_749 rfl (lv_at hl 0 rfl) ?_
  refine lv_iload_n hx hb dL_law_750 rfl (lv_at hl 3 rfl) ?_
  refine lv_iconst (v := 3) hx hb dL_law_751 (by decide) ?_
  refine lv_iadd hx hb dL_law_752 ?_
  rw [show nI (5 * i) + 3 = nI (5 * i + 3) from nI_add (5 * i) 3]
  refine va_sld hx hb hX hbl hbA hS (vp_in_nI (N := Ln) (by omega) (by omega)) dL_law_753 ?_
  rw [nI_clamp (n := 5 * i + 3) (by omega)]
  refine ct_V (As := [.int (xs (5 * i + 1)), .int (xs (5 * i + 2)), .int (xs (5 * i + 3))]) (rest := []) hx hb hml hown hu hE hZ hS (fun _ h => h.1) hr1 (y_correct l E (reg1 s.heap.size M) σ L (xs (5 * i + 1)) (xs (5 * i + 2)) (xs (5 * i + 3))) kX10_correct u682 (cd_reg hC) rfl rfl (⟨hC, hI, hK, hJ⟩) ⟨Nat.le_of_ble_eq_true rfl, Nat.le_of_ble_eq_true rfl⟩ rfl hl.1 rfl (Nat.le_of_ble_eq_true rfl) ⟨by show _ ≤ 600000; omega, by show _ ≤ 7302250; omega⟩ dL_law_754 (fun v H1 locs1 hR hS hz hk => ?_)
  obtain ⟨L1, rfl, hC1, hx1⟩ := hR
  have hM1 := md_stay hM hk
  refine lv_aload_n hx hb dL_law_757 rfl (lv_at hl 2 rfl) ?_
  refine lv_aload_n hx hb dL_law_758 rfl (lv_at hl 0 rfl) ?_
  refine lv_iload_n hx hb dL_law_759 rfl (lv_at hl 3 rfl) ?_
  refine lv_iconst (v := 1) hx hb dL_law_760 (by decide) ?_
  refine lv_iadd hx hb dL_law_761 ?_
  rw [show nI (5 * i) + 1 = nI (5 * i + 1) from nI_add (5 * i) 1]
  refine va_sld hx hb hX hbl hbA hS (vp_in_nI (N := Ln) (by omega) (by omega)) dL_law_762 ?_
  rw [nI_clamp (n := 5 * i + 1) (by omega)]
  refine lv_aload_n hx hb dL_law_763 rfl (lv_at hl 0 rfl) ?_
  refine lv_iload_n hx hb dL_law_764 rfl (lv_at hl 3 rfl) ?_
  refine lv_iconst (v := 2) hx hb dL_law_765 (by decide) ?_
  refine lv_iadd hx hb dL_law_766 ?_
  rw [show nI (5 * i) + 2 = nI (5 * i + 2) from nI_add (5 * i) 2]
  refine va_sld hx hb hX hbl hbA hS (vp_in_nI (N := Ln) (by omega) (by omega)) dL_law_767 ?_
  rw [nI_clamp (n := 5 * i + 2) (by omega)]
  refine lv_aload_n hx hb dL_law_768 rfl (lv_at hl 0 rfl) ?_
  refine lv_iload_n hx hb dL_law_769 rfl (lv_at hl 3 rfl) ?_
  refine lv_iconst (v := 3) hx hb dL_law_770 (by decide) ?_
  refine lv_iadd hx hb dL_law_771 ?_
  rw [show nI (5 * i) + 3 = nI (5 * i + 3) from nI_add (5 * i) 3]
  refine va_sld hx hb hX hbl hbA hS (vp_in_nI (N := Ln) (by omega) (by omega)) dL_law_772 ?_
  rw [nI_clamp (n := 5 * i + 3) (by omega)]
  have hr2 : ∀ q, reg2 H1.size M q → s.heap.size ≤ q := fun q h => h.elim (fun ⟨t, ht, z⟩ => by rw [z]; exact hMn t ht) (fun z => Nat.le_trans hS.1 z)
  refine ct_V (As := [.int (xs (5 * i + 1)), .int (xs (5 * i + 2)), .int (xs (5 * i + 3))]) (rest := [.int ((k_correct σ (xs (5 * i + 1)) (xs (5 * i + 2)) (xs (5 * i + 3))).1)]) hx hb hml hown hu hE hZ hS hr2 (fun q h => Or.inr h) (c_correct l E (reg2 H1.size M) σ M (xs (5 * i + 1)) (xs (5 * i + 2)) (xs (5 * i + 3))) kX11_correct u1026 (md_obj hM1) rfl rfl ⟨md_reA hM1 (fun t ht => Or.inl ⟨t, ht, rfl⟩), hI⟩ ⟨Nat.le_of_ble_eq_true rfl, Nat.le_of_ble_eq_true rfl⟩ rfl hl.1 rfl (Nat.le_of_ble_eq_true rfl) ⟨by show _ ≤ 600000; omega, by show _ ≤ 7302250; omega⟩ dL_law_773 (fun v H2 locs2 hR hS hz hk => ?_)
  obtain ⟨rfl, hM2⟩ := hR
  have hC2 := cd_stay hC1 hk
  have hop : OpOK (k_correct σ (xs (5 * i + 1)) (xs (5 * i + 2)) (xs (5 * i + 3))) (m_correct σ (xs (5 * i + 1)) (xs (5 * i + 2)) (xs (5 * i + 3))) := correct_eq hV
  refine lv_icmp_eq (x := (k_correct σ (xs (5 * i + 1)) (xs (5 * i + 2)) (xs (5 * i + 3))).1) (y := (m_correct σ (xs (5 * i + 1)) (xs (5 * i + 2)) (xs (5 * i + 3))).1) (tgt := 969) hx hb dL_law_776 (by decide) (fun _ => ?_) (fun z => absurd hop.1 z)
  exact law_next hx hb hml hown hu hE hZ hX hbl hLn h5 ih ⟨by omega, by omega⟩ (⟨(k_correct σ (xs (5 * i + 1)) (xs (5 * i + 2)) (xs (5 * i + 3))).2, L1, hC2, md_ext (md_reA hM2 (fun _ _ => trivial)) hop.2.1, hop.2.2, hx1, rfl, hMn⟩) hS hl
set_option maxHeartbeats 4000000 in
set_option maxRecDepth 20000 in
theorem law_k19 {p : Program} {l : Launch} {e : Env} {s : State} {m : MethodId} {below : List Frame} {meth : Method} {c : Code} {b Ln x y i : Nat} {xs : Nat → Int32} {E : EV} {M : Nat → Nat} {H : Heap} {locs : List Loc} {ls : Array Slot} (hx : p.tables.exec = Jvm.exec) (hb : c.code = code) (hml : c.maxLocals = 4) (hown : s.vm.findClass R_law = some m.cls) (hu : ∀ w ∈ uw, w.before #[Value.ref b] s = true) (hE : evK E s) (hZ : evZ E (fun q => s.heap.size ≤ q) s s.heap) (hX : va_X b Ln xs s s.heap) (hbl : b < s.heap.size) (hLn : Ln ≤ 2560) (h5 : 5 * i + 5 ≤ Ln) (ih : lwIH p l e s m below meth c b x y E M (i + 1)) (hLI : LI E s.heap.size x y M H) (hS : va_S (fun q => s.heap.size ≤ q) s.heap H locs) (hl : lv_has ls 4 [(0, .ref b), (1, .ref x), (2, .ref y), (3, .int (nI (5 * i)))]) : W p l e room_1 s m #[Value.ref b] below meth c H locs (300 + 3 * i) (30000 + 500 * i) (lw_Z below #[Value.ref b] s) (F0 m 781 ls []) := by
  have hbA : ¬ s.heap.size ≤ b := by omega
  obtain ⟨σ, L, hC, hM, hV, hx0, hy0, hMn⟩ := hLI
  subst hx0
  subst hy0
  obtain ⟨hI, hL, hK, hJ, hZ_, hQ_, hKK, hO_, hD_, hF_, hW_, hN_, hB_⟩ := id hV
  have hr1 : ∀ q, H.size ≤ q → reg1 s.heap.size M q := fun q hq => ⟨Nat.le_trans hS.1 hq, fun t ht z => by have := md_lt hM ht; omega⟩
  refine lv_aload_n hx hb dL_law_781 rfl (lv_at hl 1 rfl) ?_
  refine lv_aload_n hx hb dL_law_782 rfl (lv_at hl 0 rfl) ?_
  refine lv_iload_n hx hb dL_law_783 rfl (lv_at hl 3 rfl) ?_
  refine lv_iconst (v := 1) hx hb dL_law_784 (by decide) ?_
  refine lv_iadd hx hb dL_law_785 ?_
  rw [show nI (5 * i) + 1 = nI (5 * i + 1) from nI_add (5 * i) 1]
  refine va_sld hx hb hX hbl hbA hS (vp_in_nI (N := Ln) (by omega) (by omega)) dL_law_786 ?_
  rw [nI_clamp (n := 5 * i + 1) (by omega)]
  refine lv_aload_n hx hb dL_law_787 rfl (lv_at hl 0 rfl) ?_
  refine lv_iload_n hx hb dL_law_788 rfl (lv_at hl 3 rfl) ?_
  refine lv_iconst (v := 2) hx hb dL_law_789 (by decide) ?_
  refine lv_iadd hx hb dL_law_790 ?_
  rw [show nI (5 * i) + 2 = nI (5 * i + 2) from nI_add (5 * i) 2]
  refine va_sld hx hb hX hbl hbA hS (vp_in_nI (N := Ln) (by omega) (by omega)) dL_law_791 ?_
  rw [nI_clamp (n := 5 * i + 2) (by omega)]
  refine lv_aload_n hx hb dL_law_792 rfl (lv_at hl 0 rfl) ?_
  refine lv_iload_n hx hb dL_law_793 rfl (lv_at hl 3 rfl) ?_
  refine lv_iconst (v := 3) hx hb dL_law_794 (by decide) ?_
  refine lv_iadd hx hb dL_law_795 ?_
  rw [show nI (5 * i) + 3 = nI (5 * i + 3) from nI_add (5 * i) 3]
  refine va_sld hx hb hX hbl hbA hS (vp_in_nI (N := Ln) (by omega) (by omega)) dL_law_796 ?_
  rw [nI_clamp (n := 5 * i + 3) (by omega)]
  refine cr_V (As := [.int (xs (5 * i + 1)), .int (xs (5 * i + 2)), .int (xs (5 * i + 3))]) (rest := []) hx hb hml hown hu hE (x_entry l E (reg1 s.heap.size M) σ L (xs (5 * i + 1)) (xs (5 * i + 2)) (xs (5 * i + 3))) kX10_entry u713 (cd_reg hC) rfl rfl (⟨hC, hI, hJ⟩) ⟨Nat.le_of_ble_eq_true rfl, Nat.le_of_ble_eq_true rfl⟩ rfl hl.1 rfl (Nat.le_of_ble_eq_true rfl) ⟨by show _ ≤ 600000; omega, by show _ ≤ 7302250; omega⟩ dL_law_797 ?_
  have hC1 := hC
  have hx1 : L 0 0 = L 0 0 := rfl
  have hM1 := hM
  refine lv_aload_n hx hb dL_law_800 rfl (lv_at hl 2 rfl) ?_
  refine lv_aload_n hx hb dL_law_801 rfl (lv_at hl 0 rfl) ?_
  refine lv_iload_n hx hb dL_law_802 rfl (lv_at hl 3 rfl) ?_
  refine lv_iconst (v := 1) hx hb dL_law_803 (by decide) ?_
  refine lv_iadd hx hb dL_law_804 ?_
  rw [show nI (5 * i) + 1 = nI (5 * i + 1) from nI_add (5 * i) 1]
  refine va_sld hx hb hX hbl hbA hS (vp_in_nI (N := Ln) (by omega) (by omega)) dL_law_805 ?_
  rw [nI_clamp (n := 5 * i + 1) (by omega)]
  refine lv_aload_n hx hb dL_law_806 rfl (lv_at hl 0 rfl) ?_
  refine lv_iload_n hx hb dL_law_807 rfl (lv_at hl 3 rfl) ?_
  refine lv_iconst (v := 2) hx hb dL_law_808 (by decide) ?_
  refine lv_iadd hx hb dL_law_809 ?_
  rw [show nI (5 * i) + 2 = nI (5 * i + 2) from nI_add (5 * i) 2]
  refine va_sld hx hb hX hbl hbA hS (vp_in_nI (N := Ln) (by omega) (by omega)) dL_law_810 ?_
  rw [nI_clamp (n := 5 * i + 2) (by omega)]
  refine lv_aload_n hx hb dL_law_811 rfl (lv_at hl 0 rfl) ?_
  refine lv_iload_n hx hb dL_law_812 rfl (lv_at hl 3 rfl) ?_
  refine lv_iconst (v := 3) hx hb dL_law_813 (by decide) ?_
  refine lv_iadd hx hb dL_law_814 ?_
  rw [show nI (5 * i) + 3 = nI (5 * i + 3) from nI_add (5 * i) 3]
  refine va_sld hx hb hX hbl hbA hS (vp_in_nI (N := Ln) (by omega) (by omega)) dL_law_815 ?_
  rw [nI_clamp (n := 5 * i + 3) (by omega)]
  have hr2 : ∀ q, reg2 H.size M q → s.heap.size ≤ q := fun q h => h.elim (fun ⟨t, ht, z⟩ => by rw [z]; exact hMn t ht) (fun z => Nat.le_trans hS.1 z)
  refine cr_V (As := [.int (xs (5 * i + 1)), .int (xs (5 * i + 2)), .int (xs (5 * i + 3))]) (rest := [.int (k_entry σ (xs (5 * i + 1)) (xs (5 * i + 2)) (xs (5 * i + 3)))]) hx hb hml hown hu hE (c_entry l E (fun _ => True) σ M (xs (5 * i + 1)) (xs (5 * i + 2)) (xs (5 * i + 3))) kX11_entry u1030 (md_obj hM1) rfl rfl ⟨hM1, hI⟩ ⟨Nat.le_of_ble_eq_true rfl, Nat.le_of_ble_eq_true rfl⟩ rfl hl.1 rfl (Nat.le_of_ble_eq_true rfl) ⟨by show _ ≤ 600000; omega, by show _ ≤ 7302250; omega⟩ dL_law_816 ?_
  have hM2 := hM1
  have hC2 := hC1
  have heq : k_entry σ (xs (5 * i + 1)) (xs (5 * i + 2)) (xs (5 * i + 3)) = m_entry σ (xs (5 * i + 1)) (xs (5 * i + 2)) (xs (5 * i + 3)) := enA_eq hI hJ
  refine lv_icmp_eq (x := k_entry σ (xs (5 * i + 1)) (xs (5 * i + 2)) (xs (5 * i + 3))) (y := m_entry σ (xs (5 * i + 1)) (xs (5 * i + 2)) (xs (5 * i + 3))) (tgt := 969) hx hb dL_law_819 (by decide) (fun _ => ?_) (fun z => absurd heq z)
  exact law_next hx hb hml hown hu hE hZ hX hbl hLn h5 ih ⟨by omega, by omega⟩ (⟨σ, L, hC2, md_reA hM2 (fun _ _ => trivial), hV, rfl, rfl, hMn⟩) hS hl
set_option maxHeartbeats 4000000 in
set_option maxRecDepth 20000 in
theorem law_k20 {p : Program} {l : Launch} {e : Env} {s : State} {m : MethodId} {below : List Frame} {meth : Method} {c : Code} {b Ln x y i : Nat} {xs : Nat → Int32} {E : EV} {M : Nat → Nat} {H : Heap} {locs : List Loc} {ls : Array Slot} (hx : p.tables.exec = Jvm.exec) (hb : c.code = code) (hml : c.maxLocals = 4) (hown : s.vm.findClass R_law = some m.cls) (hu : ∀ w ∈ uw, w.before #[Value.ref b] s = true) (hE : evK E s) (hZ : evZ E (fun q => s.heap.size ≤ q) s s.heap) (hX : va_X b Ln xs s s.heap) (hbl : b < s.heap.size) (hLn : Ln ≤ 2560) (h5 : 5 * i + 5 ≤ Ln) (ih : lwIH p l e s m below meth c b x y E M (i + 1)) (hLI : LI E s.heap.size x y M H) (hS : va_S (fun q => s.heap.size ≤ q) s.heap H locs) (hl : lv_has ls 4 [(0, .ref b), (1, .ref x), (2, .ref y), (3, .int (nI (5 * i)))]) : W p l e room_1 s m #[Value.ref b] below meth c H locs (300 + 3 * i) (30000 + 500 * i) (lw_Z below #[Value.ref b] s) (F0 m 824 ls []) := by
  have hbA : ¬ s.heap.size ≤ b := by omega
  obtain ⟨σ, L, hC, hM, hV, hx0, hy0, hMn⟩ := hLI
  subst hx0
  subst hy0
  obtain ⟨hI, hL, hK, hJ, hZ_, hQ_, hKK, hO_, hD_, hF_, hW_, hN_, hB_⟩ := id hV
  have hr1 : ∀ q, H.size ≤ q → reg1 s.heap.size M q := fun q hq => ⟨Nat.le_trans hS.1 hq, fun t ht z => by have := md_lt hM ht; omega⟩
  refine lv_aload_n hx hb dL_law_824 rfl (lv_at hl 1 rfl) ?_
  refine lv_aload_n hx hb dL_law_825 rfl (lv_at hl 0 rfl) ?_
  refine lv_iload_n hx hb dL_law_826 rfl (lv_at hl 3 rfl) ?_
  refine lv_iconst (v := 1) hx hb dL_law_827 (by decide) ?_
  refine lv_iadd hx hb dL_law_828 ?_
  rw [show nI (5 * i) + 1 = nI (5 * i + 1) from nI_add (5 * i) 1]
  refine va_sld hx hb hX hbl hbA hS (vp_in_nI (N := Ln) (by omega) (by omega)) dL_law_829 ?_
  rw [nI_clamp (n := 5 * i + 1) (by omega)]
  refine lv_aload_n hx hb dL_law_830 rfl (lv_at hl 0 rfl) ?_
  refine lv_iload_n hx hb dL_law_831 rfl (lv_at hl 3 rfl) ?_
  refine lv_iconst (v := 2) hx hb dL_law_832 (by decide) ?_
  refine lv_iadd hx hb dL_law_833 ?_
  rw [show nI (5 * i) + 2 = nI (5 * i + 2) from nI_add (5 * i) 2]
  refine va_sld hx hb hX hbl hbA hS (vp_in_nI (N := Ln) (by omega) (by omega)) dL_law_834 ?_
  rw [nI_clamp (n := 5 * i + 2) (by omega)]
  refine lv_aload_n hx hb dL_law_835 rfl (lv_at hl 0 rfl) ?_
  refine lv_iload_n hx hb dL_law_836 rfl (lv_at hl 3 rfl) ?_
  refine lv_iconst (v := 3) hx hb dL_law_837 (by decide) ?_
  refine lv_iadd hx hb dL_law_838 ?_
  rw [show nI (5 * i) + 3 = nI (5 * i + 3) from nI_add (5 * i) 3]
  refine va_sld hx hb hX hbl hbA hS (vp_in_nI (N := Ln) (by omega) (by omega)) dL_law_839 ?_
  rw [nI_clamp (n := 5 * i + 3) (by omega)]
  refine cr_V (As := [.int (xs (5 * i + 1)), .int (xs (5 * i + 2)), .int (xs (5 * i + 3))]) (rest := []) hx hb hml hown hu hE (x_name l E (reg1 s.heap.size M) σ L (xs (5 * i + 1)) (xs (5 * i + 2)) (xs (5 * i + 3))) kX10_name u721 (cd_reg hC) rfl rfl (⟨hC, hI, hJ, hL⟩) ⟨Nat.le_of_ble_eq_true rfl, Nat.le_of_ble_eq_true rfl⟩ rfl hl.1 rfl (Nat.le_of_ble_eq_true rfl) ⟨by show _ ≤ 600000; omega, by show _ ≤ 7302250; omega⟩ dL_law_840 ?_
  have hC1 := hC
  have hx1 : L 0 0 = L 0 0 := rfl
  have hM1 := hM
  refine lv_aload_n hx hb dL_law_843 rfl (lv_at hl 2 rfl) ?_
  refine lv_aload_n hx hb dL_law_844 rfl (lv_at hl 0 rfl) ?_
  refine lv_iload_n hx hb dL_law_845 rfl (lv_at hl 3 rfl) ?_
  refine lv_iconst (v := 1) hx hb dL_law_846 (by decide) ?_
  refine lv_iadd hx hb dL_law_847 ?_
  rw [show nI (5 * i) + 1 = nI (5 * i + 1) from nI_add (5 * i) 1]
  refine va_sld hx hb hX hbl hbA hS (vp_in_nI (N := Ln) (by omega) (by omega)) dL_law_848 ?_
  rw [nI_clamp (n := 5 * i + 1) (by omega)]
  refine lv_aload_n hx hb dL_law_849 rfl (lv_at hl 0 rfl) ?_
  refine lv_iload_n hx hb dL_law_850 rfl (lv_at hl 3 rfl) ?_
  refine lv_iconst (v := 2) hx hb dL_law_851 (by decide) ?_
  refine lv_iadd hx hb dL_law_852 ?_
  rw [show nI (5 * i) + 2 = nI (5 * i + 2) from nI_add (5 * i) 2]
  refine va_sld hx hb hX hbl hbA hS (vp_in_nI (N := Ln) (by omega) (by omega)) dL_law_853 ?_
  rw [nI_clamp (n := 5 * i + 2) (by omega)]
  refine lv_aload_n hx hb dL_law_854 rfl (lv_at hl 0 rfl) ?_
  refine lv_iload_n hx hb dL_law_855 rfl (lv_at hl 3 rfl) ?_
  refine lv_iconst (v := 3) hx hb dL_law_856 (by decide) ?_
  refine lv_iadd hx hb dL_law_857 ?_
  rw [show nI (5 * i) + 3 = nI (5 * i + 3) from nI_add (5 * i) 3]
  refine va_sld hx hb hX hbl hbA hS (vp_in_nI (N := Ln) (by omega) (by omega)) dL_law_858 ?_
  rw [nI_clamp (n := 5 * i + 3) (by omega)]
  have hr2 : ∀ q, reg2 H.size M q → s.heap.size ≤ q := fun q h => h.elim (fun ⟨t, ht, z⟩ => by rw [z]; exact hMn t ht) (fun z => Nat.le_trans hS.1 z)
  refine ct_V (As := [.int (xs (5 * i + 1)), .int (xs (5 * i + 2)), .int (xs (5 * i + 3))]) (rest := [.int (k_name σ (xs (5 * i + 1)) (xs (5 * i + 2)) (xs (5 * i + 3)))]) hx hb hml hown hu hE hZ hS hr2 (fun q h => Or.inr h) (c_name l E (reg2 H.size M) σ M (xs (5 * i + 1)) (xs (5 * i + 2)) (xs (5 * i + 3))) kX11_name u1034 (md_obj hM1) rfl rfl ⟨md_reA hM1 (fun t ht => Or.inl ⟨t, ht, rfl⟩), hI⟩ ⟨Nat.le_of_ble_eq_true rfl, Nat.le_of_ble_eq_true rfl⟩ rfl hl.1 rfl (Nat.le_of_ble_eq_true rfl) ⟨by show _ ≤ 600000; omega, by show _ ≤ 7302250; omega⟩ dL_law_859 (fun v H2 locs2 hR hS hz hk => ?_)
  obtain ⟨rfl, hM2⟩ := hR
  have hC2 := cd_stay hC1 hk
  have heq : k_name σ (xs (5 * i + 1)) (xs (5 * i + 2)) (xs (5 * i + 3)) = m_name σ (xs (5 * i + 1)) (xs (5 * i + 2)) (xs (5 * i + 3)) := nameA_eq hI hJ hN_
  refine lv_icmp_eq (x := k_name σ (xs (5 * i + 1)) (xs (5 * i + 2)) (xs (5 * i + 3))) (y := m_name σ (xs (5 * i + 1)) (xs (5 * i + 2)) (xs (5 * i + 3))) (tgt := 969) hx hb dL_law_862 (by decide) (fun _ => ?_) (fun z => absurd heq z)
  exact law_next hx hb hml hown hu hE hZ hX hbl hLn h5 ih ⟨by omega, by omega⟩ (⟨σ, L, hC2, md_reA hM2 (fun _ _ => trivial), hV, rfl, rfl, hMn⟩) hS hl
set_option maxHeartbeats 4000000 in
set_option maxRecDepth 20000 in
theorem law_k21 {p : Program} {l : Launch} {e : Env} {s : State} {m : MethodId} {below : List Frame} {meth : Method} {c : Code} {b Ln x y i : Nat} {xs : Nat → Int32} {E : EV} {M : Nat → Nat} {H : Heap} {locs : List Loc} {ls : Array Slot} (hx : p.tables.exec = Jvm.exec) (hb : c.code = code) (hml : c.maxLocals = 4) (hown : s.vm.findClass R_law = some m.cls) (hu : ∀ w ∈ uw, w.before #[Value.ref b] s = true) (hE : evK E s) (hZ : evZ E (fun q => s.heap.size ≤ q) s s.heap) (hX : va_X b Ln xs s s.heap) (hbl : b < s.heap.size) (hLn : Ln ≤ 2560) (h5 : 5 * i + 5 ≤ Ln) (ih : lwIH p l e s m below meth c b x y E M (i + 1)) (hLI : LI E s.heap.size x y M H) (hS : va_S (fun q => s.heap.size ≤ q) s.heap H locs) (hl : lv_has ls 4 [(0, .ref b), (1, .ref x), (2, .ref y), (3, .int (nI (5 * i)))]) : W p l e room_1 s m #[Value.ref b] below meth c H locs (300 + 3 * i) (30000 + 500 * i) (lw_Z below #[Value.ref b] s) (F0 m 867 ls []) := by
  have hbA : ¬ s.heap.size ≤ b := by omega
  obtain ⟨σ, L, hC, hM, hV, hx0, hy0, hMn⟩ := hLI
  subst hx0
  subst hy0
  obtain ⟨hI, hL, hK, hJ, hZ_, hQ_, hKK, hO_, hD_, hF_, hW_, hN_, hB_⟩ := id hV
  have hr1 : ∀ q, H.size ≤ q → reg1 s.heap.size M q := fun q hq => ⟨Nat.le_trans hS.1 hq, fun t ht z => by have := md_lt hM ht; omega⟩
  refine lv_aload_n hx hb dL_law_867 rfl (lv_at hl 1 rfl) ?_
  refine lv_aload_n hx hb dL_law_868 rfl (lv_at hl 0 rfl) ?_
  refine lv_iload_n hx hb dL_law_869 rfl (lv_at hl 3 rfl) ?_
  refine lv_iconst (v := 1) hx hb dL_law_870 (by decide) ?_
  refine lv_iadd hx hb dL_law_871 ?_
  rw [show nI (5 * i) + 1 = nI (5 * i + 1) from nI_add (5 * i) 1]
  refine va_sld hx hb hX hbl hbA hS (vp_in_nI (N := Ln) (by omega) (by omega)) dL_law_872 ?_
  rw [nI_clamp (n := 5 * i + 1) (by omega)]
  refine cr_V (As := [.int (xs (5 * i + 1))]) (rest := []) hx hb hml hown hu hE (x_quarrel l E (reg1 s.heap.size M) σ L (xs (5 * i + 1))) kX10_quarrel u729 (cd_reg hC) rfl rfl (⟨hC, hI, hJ, hL⟩) ⟨Nat.le_of_ble_eq_true rfl, Nat.le_of_ble_eq_true rfl⟩ rfl hl.1 rfl (Nat.le_of_ble_eq_true rfl) ⟨by show _ ≤ 600000; omega, by show _ ≤ 7302250; omega⟩ dL_law_873 ?_
  have hC1 := hC
  have hx1 : L 0 0 = L 0 0 := rfl
  have hM1 := hM
  refine lv_aload_n hx hb dL_law_876 rfl (lv_at hl 2 rfl) ?_
  refine lv_aload_n hx hb dL_law_877 rfl (lv_at hl 0 rfl) ?_
  refine lv_iload_n hx hb dL_law_878 rfl (lv_at hl 3 rfl) ?_
  refine lv_iconst (v := 1) hx hb dL_law_879 (by decide) ?_
  refine lv_iadd hx hb dL_law_880 ?_
  rw [show nI (5 * i) + 1 = nI (5 * i + 1) from nI_add (5 * i) 1]
  refine va_sld hx hb hX hbl hbA hS (vp_in_nI (N := Ln) (by omega) (by omega)) dL_law_881 ?_
  rw [nI_clamp (n := 5 * i + 1) (by omega)]
  have hr2 : ∀ q, reg2 H.size M q → s.heap.size ≤ q := fun q h => h.elim (fun ⟨t, ht, z⟩ => by rw [z]; exact hMn t ht) (fun z => Nat.le_trans hS.1 z)
  refine ct_V (As := [.int (xs (5 * i + 1))]) (rest := [.int (bI (k_quarrel σ (xs (5 * i + 1))))]) hx hb hml hown hu hE hZ hS hr2 (fun q h => Or.inr h) (c_quarrel l E (reg2 H.size M) σ M (xs (5 * i + 1))) kX11_quarrel u1042 (md_obj hM1) rfl rfl ⟨md_reA hM1 (fun t ht => Or.inl ⟨t, ht, rfl⟩), hI⟩ ⟨Nat.le_of_ble_eq_true rfl, Nat.le_of_ble_eq_true rfl⟩ rfl hl.1 rfl (Nat.le_of_ble_eq_true rfl) ⟨by show _ ≤ 600000; omega, by show _ ≤ 7302250; omega⟩ dL_law_882 (fun v H2 locs2 hR hS hz hk => ?_)
  obtain ⟨rfl, hM2⟩ := hR
  have hC2 := cd_stay hC1 hk
  have heq : bI (k_quarrel σ (xs (5 * i + 1))) = bI (m_quarrel σ (xs (5 * i + 1))) := congrArg bI (quarrel_eq hI hJ hN_)
  refine lv_icmp_eq (x := bI (k_quarrel σ (xs (5 * i + 1)))) (y := bI (m_quarrel σ (xs (5 * i + 1)))) (tgt := 969) hx hb dL_law_885 (by decide) (fun _ => ?_) (fun z => absurd heq z)
  exact law_next hx hb hml hown hu hE hZ hX hbl hLn h5 ih ⟨by omega, by omega⟩ (⟨σ, L, hC2, md_reA hM2 (fun _ _ => trivial), hV, rfl, rfl, hMn⟩) hS hl
set_option maxHeartbeats 4000000 in
set_option maxRecDepth 20000 in
theorem law_k22 {p : Program} {l : Launch} {e : Env} {s : State} {m : MethodId} {below : List Frame} {meth : Method} {c : Code} {b Ln x y i : Nat} {xs : Nat → Int32} {E : EV} {M : Nat → Nat} {H : Heap} {locs : List Loc} {ls : Array Slot} (hx : p.tables.exec = Jvm.exec) (hb : c.code = code) (hml : c.maxLocals = 4) (hown : s.vm.findClass R_law = some m.cls) (hu : ∀ w ∈ uw, w.before #[Value.ref b] s = true) (hE : evK E s) (hZ : evZ E (fun q => s.heap.size ≤ q) s s.heap) (hX : va_X b Ln xs s s.heap) (hbl : b < s.heap.size) (hLn : Ln ≤ 2560) (h5 : 5 * i + 5 ≤ Ln) (ih : lwIH p l e s m below meth c b x y E M (i + 1)) (hLI : LI E s.heap.size x y M H) (hS : va_S (fun q => s.heap.size ≤ q) s.heap H locs) (hl : lv_has ls 4 [(0, .ref b), (1, .ref x), (2, .ref y), (3, .int (nI (5 * i)))]) : W p l e room_1 s m #[Value.ref b] below meth c H locs (300 + 3 * i) (30000 + 500 * i) (lw_Z below #[Value.ref b] s) (F0 m 890 ls []) := by
  have hbA : ¬ s.heap.size ≤ b := by omega
  obtain ⟨σ, L, hC, hM, hV, hx0, hy0, hMn⟩ := hLI
  subst hx0
  subst hy0
  obtain ⟨hI, hL, hK, hJ, hZ_, hQ_, hKK, hO_, hD_, hF_, hW_, hN_, hB_⟩ := id hV
  have hr1 : ∀ q, H.size ≤ q → reg1 s.heap.size M q := fun q hq => ⟨Nat.le_trans hS.1 hq, fun t ht z => by have := md_lt hM ht; omega⟩
  refine lv_aload_n hx hb dL_law_890 rfl (lv_at hl 1 rfl) ?_
  refine lv_aload_n hx hb dL_law_891 rfl (lv_at hl 0 rfl) ?_
  refine lv_iload_n hx hb dL_law_892 rfl (lv_at hl 3 rfl) ?_
  refine lv_iconst (v := 1) hx hb dL_law_893 (by decide) ?_
  refine lv_iadd hx hb dL_law_894 ?_
  rw [show nI (5 * i) + 1 = nI (5 * i + 1) from nI_add (5 * i) 1]
  refine va_sld hx hb hX hbl hbA hS (vp_in_nI (N := Ln) (by omega) (by omega)) dL_law_895 ?_
  rw [nI_clamp (n := 5 * i + 1) (by omega)]
  refine lv_aload_n hx hb dL_law_896 rfl (lv_at hl 0 rfl) ?_
  refine lv_iload_n hx hb dL_law_897 rfl (lv_at hl 3 rfl) ?_
  refine lv_iconst (v := 2) hx hb dL_law_898 (by decide) ?_
  refine lv_iadd hx hb dL_law_899 ?_
  rw [show nI (5 * i) + 2 = nI (5 * i + 2) from nI_add (5 * i) 2]
  refine va_sld hx hb hX hbl hbA hS (vp_in_nI (N := Ln) (by omega) (by omega)) dL_law_900 ?_
  rw [nI_clamp (n := 5 * i + 2) (by omega)]
  refine cr_V (As := [.int (xs (5 * i + 1)), .int (xs (5 * i + 2))]) (rest := []) hx hb hml hown hu hE (x_told l E (reg1 s.heap.size M) σ L (xs (5 * i + 1)) (xs (5 * i + 2))) kX10_told u733 (cd_reg hC) rfl rfl (⟨hC, hI⟩) ⟨Nat.le_of_ble_eq_true rfl, Nat.le_of_ble_eq_true rfl⟩ rfl hl.1 rfl (Nat.le_of_ble_eq_true rfl) ⟨by show _ ≤ 600000; omega, by show _ ≤ 7302250; omega⟩ dL_law_901 ?_
  have hC1 := hC
  have hx1 : L 0 0 = L 0 0 := rfl
  have hM1 := hM
  refine lv_aload_n hx hb dL_law_904 rfl (lv_at hl 2 rfl) ?_
  refine lv_aload_n hx hb dL_law_905 rfl (lv_at hl 0 rfl) ?_
  refine lv_iload_n hx hb dL_law_906 rfl (lv_at hl 3 rfl) ?_
  refine lv_iconst (v := 1) hx hb dL_law_907 (by decide) ?_
  refine lv_iadd hx hb dL_law_908 ?_
  rw [show nI (5 * i) + 1 = nI (5 * i + 1) from nI_add (5 * i) 1]
  refine va_sld hx hb hX hbl hbA hS (vp_in_nI (N := Ln) (by omega) (by omega)) dL_law_909 ?_
  rw [nI_clamp (n := 5 * i + 1) (by omega)]
  refine lv_aload_n hx hb dL_law_910 rfl (lv_at hl 0 rfl) ?_
  refine lv_iload_n hx hb dL_law_911 rfl (lv_at hl 3 rfl) ?_
  refine lv_iconst (v := 2) hx hb dL_law_912 (by decide) ?_
  refine lv_iadd hx hb dL_law_913 ?_
  rw [show nI (5 * i) + 2 = nI (5 * i + 2) from nI_add (5 * i) 2]
  refine va_sld hx hb hX hbl hbA hS (vp_in_nI (N := Ln) (by omega) (by omega)) dL_law_914 ?_
  rw [nI_clamp (n := 5 * i + 2) (by omega)]
  have hr2 : ∀ q, reg2 H.size M q → s.heap.size ≤ q := fun q h => h.elim (fun ⟨t, ht, z⟩ => by rw [z]; exact hMn t ht) (fun z => Nat.le_trans hS.1 z)
  refine cr_V (As := [.int (xs (5 * i + 1)), .int (xs (5 * i + 2))]) (rest := [.int (k_told σ (xs (5 * i + 1)) (xs (5 * i + 2)))]) hx hb hml hown hu hE (c_told l E (fun _ => True) σ M (xs (5 * i + 1)) (xs (5 * i + 2))) kX11_told u1046 (md_obj hM1) rfl rfl ⟨hM1, hI⟩ ⟨Nat.le_of_ble_eq_true rfl, Nat.le_of_ble_eq_true rfl⟩ rfl hl.1 rfl (Nat.le_of_ble_eq_true rfl) ⟨by show _ ≤ 600000; omega, by show _ ≤ 7302250; omega⟩ dL_law_915 ?_
  have hM2 := hM1
  have hC2 := hC1
  have heq : k_told σ (xs (5 * i + 1)) (xs (5 * i + 2)) = m_told σ (xs (5 * i + 1)) (xs (5 * i + 2)) := told_eq hI hO_
  refine lv_icmp_eq (x := k_told σ (xs (5 * i + 1)) (xs (5 * i + 2))) (y := m_told σ (xs (5 * i + 1)) (xs (5 * i + 2))) (tgt := 969) hx hb dL_law_918 (by decide) (fun _ => ?_) (fun z => absurd heq z)
  exact law_next hx hb hml hown hu hE hZ hX hbl hLn h5 ih ⟨by omega, by omega⟩ (⟨σ, L, hC2, md_reA hM2 (fun _ _ => trivial), hV, rfl, rfl, hMn⟩) hS hl
set_option maxHeartbeats 4000000 in
set_option maxRecDepth 20000 in
theorem law_k23 {p : Program} {l : Launch} {e : Env} {s : State} {m : MethodId} {below : List Frame} {meth : Method} {c : Code} {b Ln x y i : Nat} {xs : Nat → Int32} {E : EV} {M : Nat → Nat} {H : Heap} {locs : List Loc} {ls : Array Slot} (hx : p.tables.exec = Jvm.exec) (hb : c.code = code) (hml : c.maxLocals = 4) (hown : s.vm.findClass R_law = some m.cls) (hu : ∀ w ∈ uw, w.before #[Value.ref b] s = true) (hE : evK E s) (hZ : evZ E (fun q => s.heap.size ≤ q) s s.heap) (hX : va_X b Ln xs s s.heap) (hbl : b < s.heap.size) (hLn : Ln ≤ 2560) (h5 : 5 * i + 5 ≤ Ln) (ih : lwIH p l e s m below meth c b x y E M (i + 1)) (hLI : LI E s.heap.size x y M H) (hS : va_S (fun q => s.heap.size ≤ q) s.heap H locs) (hl : lv_has ls 4 [(0, .ref b), (1, .ref x), (2, .ref y), (3, .int (nI (5 * i)))]) : W p l e room_1 s m #[Value.ref b] below meth c H locs (300 + 3 * i) (30000 + 500 * i) (lw_Z below #[Value.ref b] s) (F0 m 923 ls []) := by
  have hbA : ¬ s.heap.size ≤ b := by omega
  obtain ⟨σ, L, hC, hM, hV, hx0, hy0, hMn⟩ := hLI
  subst hx0
  subst hy0
  obtain ⟨hI, hL, hK, hJ, hZ_, hQ_, hKK, hO_, hD_, hF_, hW_, hN_, hB_⟩ := id hV
  have hr1 : ∀ q, H.size ≤ q → reg1 s.heap.size M q := fun q hq => ⟨Nat.le_trans hS.1 hq, fun t ht z => by have := md_lt hM ht; omega⟩
  refine lv_aload_n hx hb dL_law_923 rfl (lv_at hl 1 rfl) ?_
  refine lv_aload_n hx hb dL_law_924 rfl (lv_at hl 0 rfl) ?_
  refine lv_iload_n hx hb dL_law_925 rfl (lv_at hl 3 rfl) ?_
  refine lv_iconst (v := 1) hx hb dL_law_926 (by decide) ?_
  refine lv_iadd hx hb dL_law_927 ?_
  rw [show nI (5 * i) + 1 = nI (5 * i + 1) from nI_add (5 * i) 1]
  refine va_sld hx hb hX hbl hbA hS (vp_in_nI (N := Ln) (by omega) (by omega)) dL_law_928 ?_
  rw [nI_clamp (n := 5 * i + 1) (by omega)]
  refine cr_V (As := [.int (xs (5 * i + 1))]) (rest := []) hx hb hml hown hu hE (x_married l E (reg1 s.heap.size M) σ L (xs (5 * i + 1))) kX10_married u737 (cd_reg hC) rfl rfl (⟨hC, hI⟩) ⟨Nat.le_of_ble_eq_true rfl, Nat.le_of_ble_eq_true rfl⟩ rfl hl.1 rfl (Nat.le_of_ble_eq_true rfl) ⟨by show _ ≤ 600000; omega, by show _ ≤ 7302250; omega⟩ dL_law_929 ?_
  have hC1 := hC
  have hx1 : L 0 0 = L 0 0 := rfl
  have hM1 := hM
  refine lv_aload_n hx hb dL_law_932 rfl (lv_at hl 2 rfl) ?_
  refine lv_aload_n hx hb dL_law_933 rfl (lv_at hl 0 rfl) ?_
  refine lv_iload_n hx hb dL_law_934 rfl (lv_at hl 3 rfl) ?_
  refine lv_iconst (v := 1) hx hb dL_law_935 (by decide) ?_
  refine lv_iadd hx hb dL_law_936 ?_
  rw [show nI (5 * i) + 1 = nI (5 * i + 1) from nI_add (5 * i) 1]
  refine va_sld hx hb hX hbl hbA hS (vp_in_nI (N := Ln) (by omega) (by omega)) dL_law_937 ?_
  rw [nI_clamp (n := 5 * i + 1) (by omega)]
  have hr2 : ∀ q, reg2 H.size M q → s.heap.size ≤ q := fun q h => h.elim (fun ⟨t, ht, z⟩ => by rw [z]; exact hMn t ht) (fun z => Nat.le_trans hS.1 z)
  refine cr_V (As := [.int (xs (5 * i + 1))]) (rest := [.int (k_married σ (xs (5 * i + 1)))]) hx hb hml hown hu hE (c_married l E (fun _ => True) σ M (xs (5 * i + 1))) kX11_married u1050 (md_obj hM1) rfl rfl ⟨hM1, hI⟩ ⟨Nat.le_of_ble_eq_true rfl, Nat.le_of_ble_eq_true rfl⟩ rfl hl.1 rfl (Nat.le_of_ble_eq_true rfl) ⟨by show _ ≤ 600000; omega, by show _ ≤ 7302250; omega⟩ dL_law_938 ?_
  have hM2 := hM1
  have hC2 := hC1
  have heq : k_married σ (xs (5 * i + 1)) = m_married σ (xs (5 * i + 1)) := married_eq hI
  refine lv_icmp_eq (x := k_married σ (xs (5 * i + 1))) (y := m_married σ (xs (5 * i + 1))) (tgt := 969) hx hb dL_law_941 (by decide) (fun _ => ?_) (fun z => absurd heq z)
  exact law_next hx hb hml hown hu hE hZ hX hbl hLn h5 ih ⟨by omega, by omega⟩ (⟨σ, L, hC2, md_reA hM2 (fun _ _ => trivial), hV, rfl, rfl, hMn⟩) hS hl
set_option maxHeartbeats 4000000 in
set_option maxRecDepth 20000 in
theorem law_k24 {p : Program} {l : Launch} {e : Env} {s : State} {m : MethodId} {below : List Frame} {meth : Method} {c : Code} {b Ln x y i : Nat} {xs : Nat → Int32} {E : EV} {M : Nat → Nat} {H : Heap} {locs : List Loc} {ls : Array Slot} (hx : p.tables.exec = Jvm.exec) (hb : c.code = code) (hml : c.maxLocals = 4) (hown : s.vm.findClass R_law = some m.cls) (hu : ∀ w ∈ uw, w.before #[Value.ref b] s = true) (hE : evK E s) (hZ : evZ E (fun q => s.heap.size ≤ q) s s.heap) (hX : va_X b Ln xs s s.heap) (hbl : b < s.heap.size) (hLn : Ln ≤ 2560) (h5 : 5 * i + 5 ≤ Ln) (ih : lwIH p l e s m below meth c b x y E M (i + 1)) (hLI : LI E s.heap.size x y M H) (hS : va_S (fun q => s.heap.size ≤ q) s.heap H locs) (hl : lv_has ls 4 [(0, .ref b), (1, .ref x), (2, .ref y), (3, .int (nI (5 * i)))]) : W p l e room_1 s m #[Value.ref b] below meth c H locs (300 + 3 * i) (30000 + 500 * i) (lw_Z below #[Value.ref b] s) (F0 m 946 ls []) := by
  have hbA : ¬ s.heap.size ≤ b := by omega
  obtain ⟨σ, L, hC, hM, hV, hx0, hy0, hMn⟩ := hLI
  subst hx0
  subst hy0
  obtain ⟨hI, hL, hK, hJ, hZ_, hQ_, hKK, hO_, hD_, hF_, hW_, hN_, hB_⟩ := id hV
  have hr1 : ∀ q, H.size ≤ q → reg1 s.heap.size M q := fun q hq => ⟨Nat.le_trans hS.1 hq, fun t ht z => by have := md_lt hM ht; omega⟩
  refine lv_aload_n hx hb dL_law_946 rfl (lv_at hl 1 rfl) ?_
  refine lv_aload_n hx hb dL_law_947 rfl (lv_at hl 0 rfl) ?_
  refine lv_iload_n hx hb dL_law_948 rfl (lv_at hl 3 rfl) ?_
  refine lv_iconst (v := 1) hx hb dL_law_949 (by decide) ?_
  refine lv_iadd hx hb dL_law_950 ?_
  rw [show nI (5 * i) + 1 = nI (5 * i + 1) from nI_add (5 * i) 1]
  refine va_sld hx hb hX hbl hbA hS (vp_in_nI (N := Ln) (by omega) (by omega)) dL_law_951 ?_
  rw [nI_clamp (n := 5 * i + 1) (by omega)]
  refine cr_V (As := [.int (xs (5 * i + 1))]) (rest := []) hx hb hml hown hu hE (x_count l E (reg1 s.heap.size M) σ L (xs (5 * i + 1))) kX10_count u741 (cd_reg hC) rfl rfl (⟨hC, hI⟩) ⟨Nat.le_of_ble_eq_true rfl, Nat.le_of_ble_eq_true rfl⟩ rfl hl.1 rfl (Nat.le_of_ble_eq_true rfl) ⟨by show _ ≤ 600000; omega, by show _ ≤ 7302250; omega⟩ dL_law_952 ?_
  have hC1 := hC
  have hx1 : L 0 0 = L 0 0 := rfl
  have hM1 := hM
  refine lv_aload_n hx hb dL_law_955 rfl (lv_at hl 2 rfl) ?_
  refine lv_aload_n hx hb dL_law_956 rfl (lv_at hl 0 rfl) ?_
  refine lv_iload_n hx hb dL_law_957 rfl (lv_at hl 3 rfl) ?_
  refine lv_iconst (v := 1) hx hb dL_law_958 (by decide) ?_
  refine lv_iadd hx hb dL_law_959 ?_
  rw [show nI (5 * i) + 1 = nI (5 * i + 1) from nI_add (5 * i) 1]
  refine va_sld hx hb hX hbl hbA hS (vp_in_nI (N := Ln) (by omega) (by omega)) dL_law_960 ?_
  rw [nI_clamp (n := 5 * i + 1) (by omega)]
  have hr2 : ∀ q, reg2 H.size M q → s.heap.size ≤ q := fun q h => h.elim (fun ⟨t, ht, z⟩ => by rw [z]; exact hMn t ht) (fun z => Nat.le_trans hS.1 z)
  refine cr_V (As := [.int (xs (5 * i + 1))]) (rest := [.int (m_count σ (xs (5 * i + 1)))]) hx hb hml hown hu hE (c_count l E (fun _ => True) σ M (xs (5 * i + 1))) kX11_count u1054 (md_obj hM1) rfl rfl ⟨hM1, hI⟩ ⟨Nat.le_of_ble_eq_true rfl, Nat.le_of_ble_eq_true rfl⟩ rfl hl.1 rfl (Nat.le_of_ble_eq_true rfl) ⟨by show _ ≤ 600000; omega, by show _ ≤ 7302250; omega⟩ dL_law_961 ?_
  have hM2 := hM1
  have hC2 := hC1
  have heq : m_count σ (xs (5 * i + 1)) = m_count σ (xs (5 * i + 1)) := rfl
  refine lv_icmp_eq (x := m_count σ (xs (5 * i + 1))) (y := m_count σ (xs (5 * i + 1))) (tgt := 969) hx hb dL_law_964 (by decide) (fun _ => ?_) (fun z => absurd heq z)
  exact law_next hx hb hml hown hu hE hZ hX hbl hLn h5 ih ⟨by omega, by omega⟩ (⟨σ, L, hC2, md_reA hM2 (fun _ _ => trivial), hV, rfl, rfl, hMn⟩) hS hl
