set_option maxHeartbeats 1000000 in
set_option maxRecDepth 20000 in
theorem x_setB (l : Launch) (E : EV) (A : Nat → Prop) (H0 : Heap) (σ : St) (L : Nat → Nat → Nat) (n d x : Int32) : Ct l E yX6_setBooking cX6_setBooking 3 none 0 0 0 0 A [.ref (L 22 n.toNatClampNeg), .int d, .int x] (fun H => H = H0 ∧ Cd E A σ L H ∧ InvM σ ∧ okN σ n) (fun v H => v = none ∧ Cd E A (m_boS σ n d x) L H ∧ ∀ q : Nat, q ≠ L 22 n.toNatClampNeg → H[q]? = H0[q]?) := by
  refine Ct.of (by decide +kernel) (Nat.le_of_ble_eq_true rfl) (fun pg ev s mi bel mth cd hx hb hr hml hown hu hlocks hnm hE hP hA hZ ls hl => ?_)
  have hl : lv_has ls 3 [(0, .ref (L 22 n.toNatClampNeg)), (1, .int d), (2, .int x)] := hl
  have hS : va_S A s.heap s.heap [] := va_S.rf
  obtain ⟨h0, hC, hI, hX⟩ := hP
  have oc : ∀ q : Nat, q ≠ L 22 n.toNatClampNeg → s.heap[q]? = H0[q]? := fun q _ => by rw [h0]
  refine lv_aload_n hx hb dX6_setBooking_0 rfl (lv_at hl 0 rfl) ?_
  refine lv_iload_n hx hb dX6_setBooking_1 rfl (lv_at hl 1 rfl) ?_
  refine wr_put (k := 6) (v := .int d) hx hb hown hu hE ok7 hS (cd_A hC (cv_22 (okN_lt hX))) (cd_not hC (okN_lt hX)) (by decide) u461 (Or.inl rfl) rfl rfl rfl (Nat.le_of_ble_eq_true rfl) dX6_setBooking_2 (fun H1 locs1 ho hz oq hS => ?_)
  have hC := cw_not (t := 21) (x := d) hC hI (okN_lt hX) (Or.inr (Or.inr (Or.inl ⟨rfl, rfl⟩))) ho oq
  have hI1 : InvM (sA σ 21 n.toNatClampNeg d) := invM_tag hI (by omega)
  have oc : ∀ q : Nat, q ≠ L 22 n.toNatClampNeg → H1[q]? = H0[q]? := fun q hq => (oq q hq).trans (oc q hq)
  refine lv_aload_n hx hb dX6_setBooking_5 rfl (lv_at hl 0 rfl) ?_
  refine lv_iload_n hx hb dX6_setBooking_6 rfl (lv_at hl 2 rfl) ?_
  refine wr_put (k := 7) (v := .int x) hx hb hown hu hE ok7 hS (cd_A hC (cv_22 (okN_lt (σ := σ) hX))) (cd_not hC (okN_lt (σ := σ) hX)) (by decide) u464 (Or.inl rfl) rfl rfl rfl (Nat.le_of_ble_eq_true rfl) dX6_setBooking_7 (fun H1 locs1 ho hz oq hS => ?_)
  have hC := cw_not (t := 22) (x := x) hC hI1 (okN_lt (σ := σ) hX) (Or.inr (Or.inr (Or.inr ⟨rfl, rfl⟩))) ho oq
  have oc : ∀ q : Nat, q ≠ L 22 n.toNatClampNeg → H1[q]? = H0[q]? := fun q hq => (oq q hq).trans (oc q hq)
  exact ct_rv hx hb hr hlocks hS (⟨rfl, hC, oc⟩) (Nat.le_of_ble_eq_true rfl) (Nat.le_of_ble_eq_true rfl) dX6_setBooking_10
set_option maxHeartbeats 1000000 in
set_option maxRecDepth 20000 in
theorem y_go (l : Launch) (E : EV) (A : Nat → Prop) (σ : St) (L : Nat → Nat → Nat) (n : Int32) : Ct l E yX10_go cX10_go 2 (some .int) 1 21 0 0 A [.ref (L 0 0), .int n] (fun H => Cd E A σ L H ∧ InvM σ) (fun v H => ∃ L1, v = some (.int (k_go σ n).1) ∧ Cd E A (k_go σ n).2 L1 H ∧ L1 0 0 = L 0 0) := by
  refine Ct.of (by decide +kernel) (Nat.le_of_ble_eq_true rfl) (fun pg ev s mi bel mth cd hx hb hr hml hown hu hlocks hnm hE hP hA hZ ls hl => ?_)
  have hl : lv_has ls 2 [(0, .ref (L 0 0)), (1, .int n)] := hl
  have hS : va_S A s.heap s.heap [] := va_S.rf
  obtain ⟨hC, hI⟩ := hP
  refine lv_iload_n hx hb dX10_go_0 rfl (lv_at hl 1 rfl) ?_
  refine lv_if_lt (tgt := 11) hx hb dX10_go_1 (by decide) (fun c1 => ?_) (fun c1 => ?_)
  · refine lv_iconst (v := (-1)) hx hb dX10_go_11 (by decide) ?_
    exact ct_ri hx hb hr hlocks hS (by (have hB : (decide (n < 0) || decide (400 < n)) = true := (by simp only [eq_self, decide_eq_true c1, Bool.not_true, Bool.not_false, Bool.and_true, Bool.true_and, Bool.and_false, Bool.false_and, Bool.or_true, Bool.true_or, Bool.or_false, Bool.false_or, Bool.and_self, Bool.or_self, eq_self, if_true, Bool.false_eq_true, if_false])); unfold k_go; rw [hB]; exact ⟨L, rfl, hC, rfl⟩) (Nat.le_of_ble_eq_true rfl) (Nat.le_of_ble_eq_true rfl) dX10_go_12
  · refine lv_iload_n hx hb dX10_go_4 rfl (lv_at hl 1 rfl) ?_
    refine lv_sipush (v := 400) hx hb dX10_go_5 (by decide) ?_
    refine lv_icmp_le (tgt := 13) hx hb dX10_go_8 (by decide) (fun c2 => ?_) (fun c2 => ?_)
    · refine lv_aload_n hx hb dX10_go_13 rfl (lv_at hl 0 rfl) ?_
      refine lv_aload_n hx hb dX10_go_14 rfl (lv_at hl 0 rfl) ?_
      refine rd_get (k := 0) (v := .int (σ 0 0)) hx hb hown hu hE ok11 (cd_reg hC) (by decide) u137 (fun _ h => h) rfl dX10_go_15 ?_
      refine lv_iload_n hx hb dX10_go_18 rfl (lv_at hl 1 rfl) ?_
      refine lv_iadd hx hb dX10_go_19 ?_
      refine lv_sipush (v := 20000) hx hb dX10_go_20 (by decide) ?_
      refine va_mmin hx hb (by rw [hml]; exact hl.1.symm) hown (hu _ u371) (hu _ u251) (hu _ u11) (hu _ u252) (Nat.le_of_ble_eq_true rfl) (Nat.le_of_ble_eq_true rfl) (Nat.le_of_ble_eq_true rfl) (Nat.le_of_ble_eq_true rfl) dX10_go_23 ?_
      refine wr_put (k := 0) (v := .int (m_min ((σ 0 0) + n) 20000)) hx hb hown hu hE ok11 hS (cd_A hC (cv_f (by omega))) (cd_reg hC) (by decide) u137 (Or.inl rfl) rfl rfl rfl (Nat.le_of_ble_eq_true rfl) dX10_go_26 (fun H1 locs1 ho hz oq hS => ?_)
      have hC := cw_reg (t := 0) (x := m_min ((σ 0 0) + n) 20000) hC hI (Or.inl ⟨rfl, rfl⟩) ho oq
      refine lv_aload_n hx hb dX10_go_29 rfl (lv_at hl 0 rfl) ?_
      refine rd_get (k := 0) (v := .int (m_min ((σ 0 0) + n) 20000)) hx hb hown hu hE ok11 (cd_reg hC) (by decide) u137 (fun _ h => h) rfl dX10_go_30 ?_
      exact ct_ri hx hb hr hlocks hS (by (have hB : (decide (n < 0) || decide (400 < n)) = false := (by simp only [eq_self, decide_eq_false c1, decide_eq_false (Int32.not_lt.mpr c2), Bool.not_true, Bool.not_false, Bool.and_true, Bool.true_and, Bool.and_false, Bool.false_and, Bool.or_true, Bool.true_or, Bool.or_false, Bool.false_or, Bool.and_self, Bool.or_self, eq_self, if_true, Bool.false_eq_true, if_false])); unfold k_go; rw [hB]; exact ⟨L, rfl, hC, rfl⟩) (Nat.le_of_ble_eq_true rfl) (Nat.le_of_ble_eq_true rfl) dX10_go_33
    · refine lv_iconst (v := (-1)) hx hb dX10_go_11 (by decide) ?_
      exact ct_ri hx hb hr hlocks hS (by (have hB : (decide (n < 0) || decide (400 < n)) = true := (by simp only [eq_self, decide_eq_false c1, decide_eq_true (Int32.not_le.mp c2), Bool.not_true, Bool.not_false, Bool.and_true, Bool.true_and, Bool.and_false, Bool.false_and, Bool.or_true, Bool.true_or, Bool.or_false, Bool.false_or, Bool.and_self, Bool.or_self, eq_self, if_true, Bool.false_eq_true, if_false])); unfold k_go; rw [hB]; exact ⟨L, rfl, hC, rfl⟩) (Nat.le_of_ble_eq_true rfl) (Nat.le_of_ble_eq_true rfl) dX10_go_12
set_option maxHeartbeats 1000000 in
set_option maxRecDepth 20000 in
theorem y_withdraw (l : Launch) (E : EV) (A : Nat → Prop) (σ : St) (L : Nat → Nat → Nat) (n : Int32) : Ct l E yX10_withdraw cX10_withdraw 3 (some .boolean) 4 85 0 0 A [.ref (L 0 0), .int n] (fun H => Cd E A σ L H ∧ InvM σ) (fun v H => ∃ L1, v = some (.int (k_withdraw σ n).1) ∧ Cd E A (k_withdraw σ n).2 L1 H ∧ L1 0 0 = L 0 0) := by
  refine Ct.of (by decide +kernel) (Nat.le_of_ble_eq_true rfl) (fun pg ev s mi bel mth cd hx hb hr hml hown hu hlocks hnm hE hP hA hZ ls hl => ?_)
  have hl : lv_has ls 3 [(0, .ref (L 0 0)), (1, .int n)] := hl
  have hS : va_S A s.heap s.heap [] := va_S.rf
  obtain ⟨hC, hI⟩ := hP
  refine lv_aload_n hx hb dX10_withdraw_0 rfl (lv_at hl 0 rfl) ?_
  refine lv_iload_n hx hb dX10_withdraw_1 rfl (lv_at hl 1 rfl) ?_
  refine cr_V (As := [.int n]) (rest := []) hx hb hml hown hu hE (x_notAt l E A σ L n) kX10_noticeAt u487 (cd_reg hC) rfl rfl (⟨hC, hI⟩) ⟨Nat.le_of_ble_eq_true rfl, Nat.le_of_ble_eq_true rfl⟩ rfl hl.1 rfl (Nat.le_of_ble_eq_true rfl) ⟨Nat.le_of_ble_eq_true rfl, Nat.le_of_ble_eq_true rfl⟩ dX10_withdraw_2 ?_
  refine onO (fun b1 => ?_) (fun b1 => ?_)
  · refine lv_astore_n (lv' := [(2, .ref (L 22 n.toNatClampNeg)), (0, .ref (L 0 0)), (1, .int n)]) hx hb dX10_withdraw_5 rfl hl (by decide) rfl (fun ls hl => ?_)
    refine lv_aload_n hx hb dX10_withdraw_6 rfl (lv_at hl 0 rfl) ?_
    refine lv_ifnull hx hb dX10_withdraw_7 ?_
    refine lv_aload_n hx hb dX10_withdraw_10 rfl (lv_at hl 0 rfl) ?_
    refine rd_get (k := 4) (v := .int (gA σ 20 n)) hx hb hown hu hE ok7 (cd_not hC (okN_lt (isN_ok hI b1))) (by decide) u458 (fun _ h => h) rfl dX10_withdraw_11 ?_
    refine lv_if_eq (tgt := 19) hx hb dX10_withdraw_14 (by decide) (fun c2 => ?_) (fun c2 => ?_)
    · refine lv_aload_n hx hb dX10_withdraw_19 rfl (lv_at hl 0 rfl) ?_
      refine lv_iconst (v := 2) hx hb dX10_withdraw_20 (by decide) ?_
      refine wr_put (k := 4) (v := .int 2) hx hb hown hu hE ok7 hS (cd_A hC (cv_22 (okN_lt (isN_ok hI b1)))) (cd_not hC (okN_lt (isN_ok hI b1))) (by decide) u458 (Or.inl rfl) rfl rfl rfl (Nat.le_of_ble_eq_true rfl) dX10_withdraw_21 (fun H1 locs1 ho hz oq hS => ?_)
      have hC := cw_not (t := 20) (x := 2) hC hI (okN_lt (isN_ok hI b1)) (Or.inl ⟨rfl, rfl⟩) ho oq
      have hI3 : InvM (sA σ 20 n.toNatClampNeg 2) := invM_tag hI (by omega)
      refine lv_aload_n hx hb dX10_withdraw_24 rfl (lv_at hl 0 rfl) ?_
      refine lv_iconst (v := (-1)) hx hb dX10_withdraw_25 (by decide) ?_
      refine lv_iconst (v := (-1)) hx hb dX10_withdraw_26 (by decide) ?_
      refine ct_V (As := [.int (-1), .int (-1)]) (rest := []) hx hb hml hown hu hE hZ hS (fun _ h => h) (fun q h => hA q (Nat.le_trans hS.1 h)) (x_setB l E A H1 (sA σ 20 n.toNatClampNeg 2) L n (-1) (-1)) kX6_setBooking u491 (cd_not hC (okN_lt (σ := σ) (isN_ok hI b1))) rfl rfl (⟨rfl, hC, hI3, (show okN σ n from (isN_ok hI b1))⟩) ⟨Nat.le_of_ble_eq_true rfl, Nat.le_of_ble_eq_true rfl⟩ rfl hl.1 rfl (Nat.le_of_ble_eq_true rfl) ⟨Nat.le_of_ble_eq_true rfl, Nat.le_of_ble_eq_true rfl⟩ dX10_withdraw_27 (fun v4 H1 locs1 hR hS hz hk => ?_)
      obtain ⟨rfl, hC, oq⟩ := hR
      refine lv_iconst (v := 1) hx hb dX10_withdraw_30 (by decide) ?_
      exact ct_rz hx hb hr hlocks hS (by (have hB : (!m_isN σ n || !decide (gA σ 20 n = 0)) = false := (by simp only [eq_self, b1, decide_eq_true c2, Bool.not_true, Bool.not_false, Bool.and_true, Bool.true_and, Bool.and_false, Bool.false_and, Bool.or_true, Bool.true_or, Bool.or_false, Bool.false_or, Bool.and_self, Bool.or_self, eq_self, if_true, Bool.false_eq_true, if_false])); unfold k_withdraw; rw [hB]; exact ⟨L, rfl, hC, rfl⟩) (rfl) (Nat.le_of_ble_eq_true rfl) (Nat.le_of_ble_eq_true rfl) dX10_withdraw_31
    · refine lv_iconst (v := 0) hx hb dX10_withdraw_17 (by decide) ?_
      exact ct_rz hx hb hr hlocks hS (by (have hB : (!m_isN σ n || !decide (gA σ 20 n = 0)) = true := (by simp only [eq_self, b1, decide_eq_false c2, Bool.not_true, Bool.not_false, Bool.and_true, Bool.true_and, Bool.and_false, Bool.false_and, Bool.or_true, Bool.true_or, Bool.or_false, Bool.false_or, Bool.and_self, Bool.or_self, eq_self, if_true, Bool.false_eq_true, if_false])); unfold k_withdraw; rw [hB]; exact ⟨L, rfl, hC, rfl⟩) (rfl) (Nat.le_of_ble_eq_true rfl) (Nat.le_of_ble_eq_true rfl) dX10_withdraw_18
  · refine lv_astore_nN (lv' := [(2, .null), (0, .ref (L 0 0)), (1, .int n)]) hx hb dX10_withdraw_5 rfl hl (by decide) rfl (fun ls hl => ?_)
    refine lv_aload_nN hx hb dX10_withdraw_6 rfl (lv_at hl 0 rfl) ?_
    refine lv_ifnullN (tgt := 17) hx hb dX10_withdraw_7 (by decide) ?_
    refine lv_iconst (v := 0) hx hb dX10_withdraw_17 (by decide) ?_
    exact ct_rz hx hb hr hlocks hS (by (have hB : (!m_isN σ n || !decide (gA σ 20 n = 0)) = true := (by simp only [eq_self, b1, Bool.not_true, Bool.not_false, Bool.and_true, Bool.true_and, Bool.and_false, Bool.false_and, Bool.or_true, Bool.true_or, Bool.or_false, Bool.false_or, Bool.and_self, Bool.or_self, eq_self, if_true, Bool.false_eq_true, if_false])); unfold k_withdraw; rw [hB]; exact ⟨L, rfl, hC, rfl⟩) (rfl) (Nat.le_of_ble_eq_true rfl) (Nat.le_of_ble_eq_true rfl) dX10_withdraw_18
set_option maxHeartbeats 1000000 in
set_option maxRecDepth 20000 in
theorem y_registrar (l : Launch) (E : EV) (A : Nat → Prop) (σ : St) (L : Nat → Nat → Nat) (t : Int32) : Ct l E yX10_registrar cX10_registrar 3 (some .int) 0 0 0 0 A [.ref (L 0 0), .int t] (fun H => Cd E A σ L H ∧ InvM σ) (fun v H => ∃ L1, v = some (.int (k_registrar σ t).1) ∧ Cd E A (k_registrar σ t).2 L1 H ∧ L1 0 0 = L 0 0) := by
  refine Ct.of (by decide +kernel) (Nat.le_of_ble_eq_true rfl) (fun pg ev s mi bel mth cd hx hb hr hml hown hu hlocks hnm hE hP hA hZ ls hl => ?_)
  have hl : lv_has ls 3 [(0, .ref (L 0 0)), (1, .int t)] := hl
  have hS : va_S A s.heap s.heap [] := va_S.rf
  obtain ⟨hC, hI⟩ := hP
  refine lv_iload_n hx hb dX10_registrar_0 rfl (lv_at hl 1 rfl) ?_
  refine lv_if_lt (tgt := 19) hx hb dX10_registrar_1 (by decide) (fun c1 => ?_) (fun c1 => ?_)
  · refine lv_iconst (v := (-1)) hx hb dX10_registrar_19 (by decide) ?_
    exact ct_ri hx hb hr hlocks hS (by (have hB : (decide (t < 0) || (decide (31 < t) || !decide (σ 28 0 < 6))) = true := (by simp only [eq_self, decide_eq_true c1, Bool.not_true, Bool.not_false, Bool.and_true, Bool.true_and, Bool.and_false, Bool.false_and, Bool.or_true, Bool.true_or, Bool.or_false, Bool.false_or, Bool.and_self, Bool.or_self, eq_self, if_true, Bool.false_eq_true, if_false])); unfold k_registrar; rw [hB]; exact ⟨L, rfl, hC, rfl⟩) (Nat.le_of_ble_eq_true rfl) (Nat.le_of_ble_eq_true rfl) dX10_registrar_20
  · refine lv_iload_n hx hb dX10_registrar_4 rfl (lv_at hl 1 rfl) ?_
    refine lv_bipush (v := 31) hx hb dX10_registrar_5 (by decide) ?_
    refine lv_icmp_gt (tgt := 19) hx hb dX10_registrar_7 (by decide) (fun c2 => ?_) (fun c2 => ?_)
    · refine lv_iconst (v := (-1)) hx hb dX10_registrar_19 (by decide) ?_
      exact ct_ri hx hb hr hlocks hS (by (have hB : (decide (t < 0) || (decide (31 < t) || !decide (σ 28 0 < 6))) = true := (by simp only [eq_self, decide_eq_false c1, decide_eq_true c2, Bool.not_true, Bool.not_false, Bool.and_true, Bool.true_and, Bool.and_false, Bool.false_and, Bool.or_true, Bool.true_or, Bool.or_false, Bool.false_or, Bool.and_self, Bool.or_self, eq_self, if_true, Bool.false_eq_true, if_false])); unfold k_registrar; rw [hB]; exact ⟨L, rfl, hC, rfl⟩) (Nat.le_of_ble_eq_true rfl) (Nat.le_of_ble_eq_true rfl) dX10_registrar_20
    · refine lv_aload_n hx hb dX10_registrar_10 rfl (lv_at hl 0 rfl) ?_
      refine rd_get (k := 2) (v := .int (σ 28 0)) hx hb hown hu hE ok11 (cd_reg hC) (by decide) u139 (fun _ h => h) rfl dX10_registrar_11 ?_
      refine lv_bipush (v := 6) hx hb dX10_registrar_14 (by decide) ?_
      refine lv_icmp_lt (tgt := 21) hx hb dX10_registrar_16 (by decide) (fun c3 => ?_) (fun c3 => ?_)
      · refine lv_aload_n hx hb dX10_registrar_21 rfl (lv_at hl 0 rfl) ?_
        refine rd_get (k := 2) (v := .int (σ 28 0)) hx hb hown hu hE ok11 (cd_reg hC) (by decide) u139 (fun _ h => h) rfl dX10_registrar_22 ?_
        refine lv_istore_n (lv' := [(2, .int (σ 28 0)), (0, .ref (L 0 0)), (1, .int t)]) hx hb dX10_registrar_25 rfl hl (by decide) rfl (fun ls hl => ?_)
        refine lv_aload_n hx hb dX10_registrar_26 rfl (lv_at hl 1 rfl) ?_
        refine rd_get (k := 3) (v := .ref (L 1 0)) hx hb hown hu hE ok11 (cd_reg hC) (by decide) u140 (fun _ h => h) rfl dX10_registrar_27 ?_
        refine lv_iload_n hx hb dX10_registrar_30 rfl (lv_at hl 0 rfl) ?_
        refine lv_iload_n hx hb dX10_registrar_31 rfl (lv_at hl 2 rfl) ?_
        refine wr_iast hx hb hE hS (cd_A hC (cv_f (by omega))) (cd_rt hC) (cnt_in (d := 6) (N := 6) hI.1.2.2.2.2.2.2.1 rfl (fun z => by rw [z] at c3; exact absurd c3 (by decide))) dX10_registrar_32 (fun H1 locs1 ho hz oq hS => ?_)
        have hC := cw_rt (j := (σ 28 0).toNatClampNeg) (x := t) hC hI ho oq
        have hI4 : InvM (sA σ 27 (σ 28 0).toNatClampNeg t) := invM_tag hI (by omega)
        refine lv_aload_n hx hb dX10_registrar_33 rfl (lv_at hl 1 rfl) ?_
        refine lv_dup hx hb dX10_registrar_34 rfl ?_
        refine rd_get (k := 2) (v := .int (σ 28 0)) hx hb hown hu hE ok11 (cd_reg hC) (by decide) u139 (fun _ h => h) rfl dX10_registrar_35 ?_
        refine lv_iconst (v := 1) hx hb dX10_registrar_38 (by decide) ?_
        refine lv_iadd hx hb dX10_registrar_39 ?_
        refine wr_put (k := 2) (v := .int ((σ 28 0) + 1)) hx hb hown hu hE ok11 hS (cd_A hC (cv_f (by omega))) (cd_reg hC) (by decide) u139 (Or.inl rfl) rfl rfl rfl (Nat.le_of_ble_eq_true rfl) dX10_registrar_40 (fun H1 locs1 ho hz oq hS => ?_)
        have hC := cw_reg (t := 28) (x := (σ 28 0) + 1) hC hI4 (Or.inr ⟨rfl, rfl⟩) ho oq
        refine lv_iload_n hx hb dX10_registrar_43 rfl (lv_at hl 0 rfl) ?_
        exact ct_ri hx hb hr hlocks hS (by (have hB : (decide (t < 0) || (decide (31 < t) || !decide (σ 28 0 < 6))) = false := (by simp only [eq_self, decide_eq_false c1, decide_eq_false c2, decide_eq_true c3, Bool.not_true, Bool.not_false, Bool.and_true, Bool.true_and, Bool.and_false, Bool.false_and, Bool.or_true, Bool.true_or, Bool.or_false, Bool.false_or, Bool.and_self, Bool.or_self, eq_self, if_true, Bool.false_eq_true, if_false])); unfold k_registrar; rw [hB]; exact ⟨L, rfl, hC, rfl⟩) (Nat.le_of_ble_eq_true rfl) (Nat.le_of_ble_eq_true rfl) dX10_registrar_44
      · refine lv_iconst (v := (-1)) hx hb dX10_registrar_19 (by decide) ?_
        exact ct_ri hx hb hr hlocks hS (by (have hB : (decide (t < 0) || (decide (31 < t) || !decide (σ 28 0 < 6))) = true := (by simp only [eq_self, decide_eq_false c1, decide_eq_false c2, decide_eq_false c3, Bool.not_true, Bool.not_false, Bool.and_true, Bool.true_and, Bool.and_false, Bool.false_and, Bool.or_true, Bool.true_or, Bool.or_false, Bool.false_or, Bool.and_self, Bool.or_self, eq_self, if_true, Bool.false_eq_true, if_false])); unfold k_registrar; rw [hB]; exact ⟨L, rfl, hC, rfl⟩) (Nat.le_of_ble_eq_true rfl) (Nat.le_of_ble_eq_true rfl) dX10_registrar_20
set_option maxHeartbeats 1000000 in
set_option maxRecDepth 20000 in
theorem y_part (l : Launch) (E : EV) (A : Nat → Prop) (σ : St) (L : Nat → Nat → Nat) (p : Int32) : Ct l E yX10_part cX10_part 4 (some .boolean) 4 85 0 0 A [.ref (L 0 0), .int p] (fun H => Cd E A σ L H ∧ InvM σ) (fun v H => ∃ L1, v = some (.int (k_part σ p).1) ∧ Cd E A (k_part σ p).2 L1 H ∧ L1 0 0 = L 0 0) := by
  refine Ct.of (by decide +kernel) (Nat.le_of_ble_eq_true rfl) (fun pg ev s mi bel mth cd hx hb hr hml hown hu hlocks hnm hE hP hA hZ ls hl => ?_)
  have hl : lv_has ls 4 [(0, .ref (L 0 0)), (1, .int p)] := hl
  have hS : va_S A s.heap s.heap [] := va_S.rf
  obtain ⟨hC, hI⟩ := hP
  refine lv_aload_n hx hb dX10_part_0 rfl (lv_at hl 0 rfl) ?_
  refine lv_iload_n hx hb dX10_part_1 rfl (lv_at hl 1 rfl) ?_
  refine cr_V (As := [.int p]) (rest := []) hx hb hml hown hu hE (x_perAt l E A σ L p) kX10_personAt u271 (cd_reg hC) rfl rfl (⟨hC, hI⟩) ⟨Nat.le_of_ble_eq_true rfl, Nat.le_of_ble_eq_true rfl⟩ rfl hl.1 rfl (Nat.le_of_ble_eq_true rfl) ⟨Nat.le_of_ble_eq_true rfl, Nat.le_of_ble_eq_true rfl⟩ dX10_part_2 ?_
  refine onO (fun b1 => ?_) (fun b1 => ?_)
  · refine lv_astore_n (lv' := [(2, .ref (L 21 p.toNatClampNeg)), (0, .ref (L 0 0)), (1, .int p)]) hx hb dX10_part_5 rfl hl (by decide) rfl (fun ls hl => ?_)
    refine lv_aload_n hx hb dX10_part_6 rfl (lv_at hl 0 rfl) ?_
    refine lv_ifnonnull (tgt := 12) hx hb dX10_part_7 (by decide) ?_
    refine lv_aload_n hx hb dX10_part_12 rfl (lv_at hl 0 rfl) ?_
    refine rd_get (k := 8) (v := va_rf (rfo L (gA σ 10 p))) hx hb hown hu hE ok10 (cd_per hC (okP_lt (isP_ok hI b1))) (by decide) u315 (fun _ h => h) rfl dX10_part_13 ?_
    refine onQ (fun q2 => ?_) (fun q2 => ?_)
    · refine lv_astore_nN (lv' := [(3, .null), (2, .ref (L 21 p.toNatClampNeg)), (0, .ref (L 0 0)), (1, .int p)]) hx hb dX10_part_16 rfl hl (by decide) rfl (fun ls hl => ?_)
      refine lv_aload_nN hx hb dX10_part_17 rfl (lv_at hl 0 rfl) ?_
      refine lv_ifnonnullN hx hb dX10_part_18 ?_
      refine lv_iconst (v := 0) hx hb dX10_part_21 (by decide) ?_
      exact ct_rz hx hb hr hlocks hS (by (have hB : (!m_isP σ p || decide (gA σ 10 p = -1)) = true := (by simp only [eq_self, b1, decide_eq_true q2, Bool.not_true, Bool.not_false, Bool.and_true, Bool.true_and, Bool.and_false, Bool.false_and, Bool.or_true, Bool.true_or, Bool.or_false, Bool.false_or, Bool.and_self, Bool.or_self, eq_self, if_true, Bool.false_eq_true, if_false])); unfold k_part; rw [hB]; exact ⟨L, rfl, hC, rfl⟩) (rfl) (Nat.le_of_ble_eq_true rfl) (Nat.le_of_ble_eq_true rfl) dX10_part_22
    · refine lv_astore_n (lv' := [(3, .ref (L 21 (gA σ 10 p).toNatClampNeg)), (2, .ref (L 21 p.toNatClampNeg)), (0, .ref (L 0 0)), (1, .int p)]) hx hb dX10_part_16 rfl hl (by decide) rfl (fun ls hl => ?_)
      refine lv_aload_n hx hb dX10_part_17 rfl (lv_at hl 0 rfl) ?_
      refine lv_ifnonnull (tgt := 23) hx hb dX10_part_18 (by decide) ?_
      refine lv_aload_n hx hb dX10_part_23 rfl (lv_at hl 0 rfl) ?_
      refine lv_null hx hb dX10_part_24 ?_
      refine wr_put (k := 8) (v := .null) hx hb hown hu hE ok10 hS (cd_A hC (cv_21 (okP_lt (okPN_of (sp_ok hI (isP_ok hI b1)) q2)))) (cd_per hC (okP_lt (okPN_of (sp_ok hI (isP_ok hI b1)) q2))) (by decide) u315 (Or.inl rfl) rfl rfl rfl (Nat.le_of_ble_eq_true rfl) dX10_part_25 (fun H1 locs1 ho hz oq hS => ?_)
      have hC := cw_per (x := (-1)) hC hI (okP_lt (okPN_of (sp_ok hI (isP_ok hI b1)) q2)) (by rw [rfo_n rfl]; exact ho) oq
      have hI3 : InvM (sA σ 10 (gA σ 10 p).toNatClampNeg (-1)) := invM_10 hI (Or.inl rfl)
      refine lv_aload_n hx hb dX10_part_28 rfl (lv_at hl 1 rfl) ?_
      refine lv_null hx hb dX10_part_29 ?_
      refine wr_put (k := 8) (v := .null) hx hb hown hu hE ok10 hS (cd_A hC (cv_21 (okP_lt (σ := σ) (isP_ok hI b1)))) (cd_per hC (okP_lt (σ := σ) (isP_ok hI b1))) (by decide) u315 (Or.inl rfl) rfl rfl rfl (Nat.le_of_ble_eq_true rfl) dX10_part_30 (fun H1 locs1 ho hz oq hS => ?_)
      have hC := cw_per (x := (-1)) hC hI3 (okP_lt (σ := σ) (isP_ok hI b1)) (by rw [rfo_n rfl]; exact ho) oq
      refine lv_iconst (v := 1) hx hb dX10_part_33 (by decide) ?_
      exact ct_rz hx hb hr hlocks hS (by (have hB : (!m_isP σ p || decide (gA σ 10 p = -1)) = false := (by simp only [eq_self, b1, decide_eq_false q2, Bool.not_true, Bool.not_false, Bool.and_true, Bool.true_and, Bool.and_false, Bool.false_and, Bool.or_true, Bool.true_or, Bool.or_false, Bool.false_or, Bool.and_self, Bool.or_self, eq_self, if_true, Bool.false_eq_true, if_false])); unfold k_part; rw [hB]; exact ⟨L, rfl, hC, rfl⟩) (rfl) (Nat.le_of_ble_eq_true rfl) (Nat.le_of_ble_eq_true rfl) dX10_part_34
  · refine lv_astore_nN (lv' := [(2, .null), (0, .ref (L 0 0)), (1, .int p)]) hx hb dX10_part_5 rfl hl (by decide) rfl (fun ls hl => ?_)
    refine lv_aload_nN hx hb dX10_part_6 rfl (lv_at hl 0 rfl) ?_
    refine lv_ifnonnullN hx hb dX10_part_7 ?_
    refine lv_iconst (v := 0) hx hb dX10_part_10 (by decide) ?_
    exact ct_rz hx hb hr hlocks hS (by (have hB : (!m_isP σ p || decide (gA σ 10 p = -1)) = true := (by simp only [eq_self, b1, Bool.not_true, Bool.not_false, Bool.and_true, Bool.true_and, Bool.and_false, Bool.false_and, Bool.or_true, Bool.true_or, Bool.or_false, Bool.false_or, Bool.and_self, Bool.or_self, eq_self, if_true, Bool.false_eq_true, if_false])); unfold k_part; rw [hB]; exact ⟨L, rfl, hC, rfl⟩) (rfl) (Nat.le_of_ble_eq_true rfl) (Nat.le_of_ble_eq_true rfl) dX10_part_11
set_option maxHeartbeats 1000000 in
set_option maxRecDepth 20000 in
theorem y_judge (l : Launch) (E : EV) (A : Nat → Prop) (σ : St) (L : Nat → Nat → Nat) (o up : Int32) : Ct l E yX10_judge cX10_judge 4 (some .boolean) 3 64 0 0 A [.ref (L 0 0), .int o, .int up] (fun H => Cd E A σ L H ∧ InvM σ ∧ InvJ σ) (fun v H => ∃ L1, v = some (.int (k_judge σ o up).1) ∧ Cd E A (k_judge σ o up).2 L1 H ∧ L1 0 0 = L 0 0) := by
  refine Ct.of (by decide +kernel) (Nat.le_of_ble_eq_true rfl) (fun pg ev s mi bel mth cd hx hb hr hml hown hu hlocks hnm hE hP hA hZ ls hl => ?_)
  have hl : lv_has ls 4 [(0, .ref (L 0 0)), (1, .int o), (2, .int up)] := hl
  have hS : va_S A s.heap s.heap [] := va_S.rf
  obtain ⟨hC, hI, hJ⟩ := hP
  refine lv_iload_n hx hb dX10_judge_0 rfl (lv_at hl 1 rfl) ?_
  refine lv_if_lt (tgt := 15) hx hb dX10_judge_1 (by decide) (fun c1 => ?_) (fun c1 => ?_)
  · refine lv_iconst (v := 0) hx hb dX10_judge_15 (by decide) ?_
    exact ct_rz hx hb hr hlocks hS (by (have hB : (c_jdBad σ o) = true := (by simp only [c_jdBad, decide_eq_true c1, Bool.not_true, Bool.not_false, Bool.and_true, Bool.true_and, Bool.and_false, Bool.false_and, Bool.or_true, Bool.true_or, Bool.or_false, Bool.false_or, Bool.and_self, Bool.or_self, eq_self, if_true, Bool.false_eq_true, if_false])); unfold k_judge; rw [hB]; exact ⟨L, rfl, hC, rfl⟩) (rfl) (Nat.le_of_ble_eq_true rfl) (Nat.le_of_ble_eq_true rfl) dX10_judge_16
  · refine lv_iload_n hx hb dX10_judge_4 rfl (lv_at hl 1 rfl) ?_
    refine lv_aload_n hx hb dX10_judge_5 rfl (lv_at hl 0 rfl) ?_
    refine rd_get (k := 8) (v := .ref (L 9 3)) hx hb hown hu hE ok11 (cd_reg hC) (by decide) u145 (fun _ h => h) rfl dX10_judge_6 ?_
    refine cr_V (As := []) (rest := [.int o]) hx hb hml hown hu hE (c_LS3 l E A σ L) kJx4a65c_size_8abf5 u266 ((cd_lex hC (j := 3) (by omega)).choose_spec) rfl rfl (⟨hC, hI⟩) ⟨Nat.le_of_ble_eq_true rfl, Nat.le_of_ble_eq_true rfl⟩ rfl hl.1 rfl (Nat.le_of_ble_eq_true rfl) ⟨Nat.le_of_ble_eq_true rfl, Nat.le_of_ble_eq_true rfl⟩ dX10_judge_9 ?_
    refine lv_icmp_lt (tgt := 17) hx hb dX10_judge_12 (by decide) (fun c2 => ?_) (fun c2 => ?_)
    · refine lv_aload_n hx hb dX10_judge_17 rfl (lv_at hl 0 rfl) ?_
      refine rd_get (k := 8) (v := .ref (L 9 3)) hx hb hown hu hE ok11 (cd_reg hC) (by decide) u145 (fun _ h => h) rfl dX10_judge_18 ?_
      refine lv_iload_n hx hb dX10_judge_21 rfl (lv_at hl 1 rfl) ?_
      refine cr_V (As := [.int o]) (rest := []) hx hb hml hown hu hE (c_LG3 l E A σ L o) kJx4a65c_get_915e3 u275 ((cd_lex hC (j := 3) (by omega)).choose_spec) rfl rfl (⟨hC, in_ok (t := 26) c1 (Int32.not_le.mpr c2)⟩) ⟨Nat.le_of_ble_eq_true rfl, Nat.le_of_ble_eq_true rfl⟩ rfl hl.1 rfl (Nat.le_of_ble_eq_true rfl) ⟨Nat.le_of_ble_eq_true rfl, Nat.le_of_ble_eq_true rfl⟩ dX10_judge_22 ?_
      refine cl_cast hx hb hown hu hE ok8 u530 (cd_obj hC (ok_lt (t := 26) (in_ok (t := 26) c1 (Int32.not_le.mpr c2)))) dX10_judge_25 ?_
      refine lv_astore_n (lv' := [(3, .ref (L 23 o.toNatClampNeg)), (0, .ref (L 0 0)), (1, .int o), (2, .int up)]) hx hb dX10_judge_28 rfl hl (by decide) rfl (fun ls hl => ?_)
      refine lv_aload_n hx hb dX10_judge_29 rfl (lv_at hl 0 rfl) ?_
      refine rd_get (k := 1) (v := .int (bI (decide (gA σ 25 o = 0)))) hx hb hown hu hE ok8 (cd_obj hC (ok_lt (t := 26) (in_ok (t := 26) c1 (Int32.not_le.mpr c2)))) (by decide) u539 (fun _ h => h) rfl dX10_judge_30 ?_
      refine onB (fun b3 => ?_) (fun b3 => ?_)
      · refine lv_if_ne (tgt := 38) hx hb dX10_judge_33 (by decide) (fun _ => ?_) (fun c4 => absurd c4 (by decide))
        refine lv_aload_n hx hb dX10_judge_38 rfl (lv_at hl 0 rfl) ?_
        refine lv_iconst (v := 0) hx hb dX10_judge_39 (by decide) ?_
        refine wr_put (k := 1) (v := .int 0) hx hb hown hu hE ok8 hS (cd_A hC (cv_23 (ok_lt (t := 26) (in_ok (t := 26) c1 (Int32.not_le.mpr c2))))) (cd_obj hC (ok_lt (t := 26) (in_ok (t := 26) c1 (Int32.not_le.mpr c2)))) (by decide) u539 (Or.inl rfl) rfl rfl rfl (Nat.le_of_ble_eq_true rfl) dX10_judge_40 (fun H1 locs1 ho hz oq hS => ?_)
        have hC := cw_obj (x := if decide (up = 0) then 2 else 1) hC hI (ok_lt (t := 26) (in_ok (t := 26) c1 (Int32.not_le.mpr c2))) (by by_cases e : up = 0 <;> simp [e]) ho oq
        have hI2 : InvM (m_jdS σ o up) := invM_tag hI (by omega)
        refine lv_iload_n hx hb dX10_judge_43 rfl (lv_at hl 3 rfl) ?_
        refine lv_if_ne (tgt := 60) hx hb dX10_judge_44 (by decide) (fun c5 => ?_) (fun c5 => ?_)
        · refine lv_iconst (v := 1) hx hb dX10_judge_60 (by decide) ?_
          exact ct_rz hx hb hr hlocks hS (by (have hB : (c_jdBad σ o) = false := (by simp only [c_jdBad, decide_eq_false c1, decide_eq_true c2, b3, decide_eq_false c5, Bool.not_true, Bool.not_false, Bool.and_true, Bool.true_and, Bool.and_false, Bool.false_and, Bool.or_true, Bool.true_or, Bool.or_false, Bool.false_or, Bool.and_self, Bool.or_self, eq_self, if_true, Bool.false_eq_true, if_false])); (have hU : decide (up = 0) = false := (by simp only [decide_eq_false c1, decide_eq_true c2, b3, decide_eq_false c5])); unfold k_judge k_jdS; rw [hB, hU]; exact ⟨L, rfl, hC, rfl⟩) (rfl) (Nat.le_of_ble_eq_true rfl) (Nat.le_of_ble_eq_true rfl) dX10_judge_61
        · refine lv_aload_n hx hb dX10_judge_47 rfl (lv_at hl 0 rfl) ?_
          refine rd_get (k := 0) (v := .ref (L 22 (gA σ 24 o).toNatClampNeg)) hx hb hown hu hE ok8 (cd_obj hC (ok_lt (σ := σ) (t := 26) (in_ok (t := 26) c1 (Int32.not_le.mpr c2)))) (by decide) u537 (fun _ h => h) rfl dX10_judge_48 ?_
          refine lv_dup hx hb dX10_judge_51 rfl ?_
          refine rd_get (k := 5) (v := .int (gA σ 93 (gA σ 24 o))) hx hb hown hu hE ok7 (cd_not hC (okN_lt (σ := σ) (ob_ok hJ (in_ok (t := 26) c1 (Int32.not_le.mpr c2))))) (by decide) u460 (fun _ h => h) rfl dX10_judge_52 ?_
          refine lv_iconst (v := 1) hx hb dX10_judge_55 (by decide) ?_
          refine lv_isub hx hb dX10_judge_56 ?_
          refine wr_put (k := 5) (v := .int ((gA σ 93 (gA σ 24 o)) - 1)) hx hb hown hu hE ok7 hS (cd_A hC (cv_22 (okN_lt (σ := σ) (ob_ok hJ (in_ok (t := 26) c1 (Int32.not_le.mpr c2)))))) (cd_not hC (okN_lt (σ := σ) (ob_ok hJ (in_ok (t := 26) c1 (Int32.not_le.mpr c2))))) (by decide) u460 (Or.inl rfl) rfl rfl rfl (Nat.le_of_ble_eq_true rfl) dX10_judge_57 (fun H1 locs1 ho hz oq hS => ?_)
          have hC := cw_not (t := 93) (x := (gA σ 93 (gA σ 24 o)) - 1) hC hI2 (okN_lt (σ := σ) (ob_ok hJ (in_ok (t := 26) c1 (Int32.not_le.mpr c2)))) (Or.inr (Or.inl ⟨rfl, rfl⟩)) ho oq
          refine lv_iconst (v := 1) hx hb dX10_judge_60 (by decide) ?_
          exact ct_rz hx hb hr hlocks hS (by (have hB : (c_jdBad σ o) = false := (by simp only [c_jdBad, decide_eq_false c1, decide_eq_true c2, b3, decide_eq_true c5, Bool.not_true, Bool.not_false, Bool.and_true, Bool.true_and, Bool.and_false, Bool.false_and, Bool.or_true, Bool.true_or, Bool.or_false, Bool.false_or, Bool.and_self, Bool.or_self, eq_self, if_true, Bool.false_eq_true, if_false])); (have hU : decide (up = 0) = true := (by simp only [decide_eq_false c1, decide_eq_true c2, b3, decide_eq_true c5])); unfold k_judge k_jdS; rw [hB, hU]; exact ⟨L, rfl, hC, rfl⟩) (rfl) (Nat.le_of_ble_eq_true rfl) (Nat.le_of_ble_eq_true rfl) dX10_judge_61
      · refine lv_if_ne (tgt := 38) hx hb dX10_judge_33 (by decide) (fun c6 => absurd c6 (by decide)) (fun _ => ?_)
        refine lv_iconst (v := 0) hx hb dX10_judge_36 (by decide) ?_
        exact ct_rz hx hb hr hlocks hS (by (have hB : (c_jdBad σ o) = true := (by simp only [c_jdBad, decide_eq_false c1, decide_eq_true c2, b3, Bool.not_true, Bool.not_false, Bool.and_true, Bool.true_and, Bool.and_false, Bool.false_and, Bool.or_true, Bool.true_or, Bool.or_false, Bool.false_or, Bool.and_self, Bool.or_self, eq_self, if_true, Bool.false_eq_true, if_false])); unfold k_judge; rw [hB]; exact ⟨L, rfl, hC, rfl⟩) (rfl) (Nat.le_of_ble_eq_true rfl) (Nat.le_of_ble_eq_true rfl) dX10_judge_37
    · refine lv_iconst (v := 0) hx hb dX10_judge_15 (by decide) ?_
      exact ct_rz hx hb hr hlocks hS (by (have hB : (c_jdBad σ o) = true := (by simp only [c_jdBad, decide_eq_false c1, decide_eq_false c2, Bool.not_true, Bool.not_false, Bool.and_true, Bool.true_and, Bool.and_false, Bool.false_and, Bool.or_true, Bool.true_or, Bool.or_false, Bool.false_or, Bool.and_self, Bool.or_self, eq_self, if_true, Bool.false_eq_true, if_false])); unfold k_judge; rw [hB]; exact ⟨L, rfl, hC, rfl⟩) (rfl) (Nat.le_of_ble_eq_true rfl) (Nat.le_of_ble_eq_true rfl) dX10_judge_16
set_option maxHeartbeats 1000000 in
set_option maxRecDepth 20000 in
theorem x_addF (l : Launch) (E : EV) (A : Nat → Prop) (σ : St) (L : Nat → Nat → Nat) (x : Int32) : Ct l E yX0_addFeast cX0_addFeast 3 none 0 0 0 0 A [.ref (L 2 0), .int x] (fun H => Cd E A σ L H ∧ InvM σ ∧ okD x) (fun v H => v = none ∧ Cd E A (sA σ 16 x.toNatClampNeg 1) L H) := by
  refine Ct.of (by decide +kernel) (Nat.le_of_ble_eq_true rfl) (fun pg ev s mi bel mth cd hx hb hr hml hown hu hlocks hnm hE hP hA hZ ls hl => ?_)
  have hl : lv_has ls 3 [(0, .ref (L 2 0)), (1, .int x)] := hl
  have hS : va_S A s.heap s.heap [] := va_S.rf
  obtain ⟨hC, hI, hX⟩ := hP
  have hn := (okD_n' hX).1
  refine lv_iload_n hx hb dX0_addFeast_0 rfl (lv_at hl 1 rfl) ?_
  refine lv_bipush (v := 6) hx hb dX0_addFeast_1 (by decide) ?_
  refine lv_ishr hx hb dX0_addFeast_3 ?_
  refine lv_istore_n (lv' := [(2, .int (x >>> (6 &&& 31))), (0, .ref (L 2 0)), (1, .int x)]) hx hb dX0_addFeast_4 rfl hl (by decide) rfl (fun ls hl => ?_)
  rw [sh6 hX] at hl
  refine lv_iload_n hx hb dX0_addFeast_5 rfl (lv_at hl 0 rfl) ?_
  refine lv_if_lt (tgt := 33) hx hb dX0_addFeast_6 (by decide) (fun c1 => absurd c1 (show ¬ nI (x.toNatClampNeg / 64) < 0 from nI_nn (by omega))) (fun c1 => ?_)
  refine lv_iload_n hx hb dX0_addFeast_9 rfl (lv_at hl 0 rfl) ?_
  refine lv_aload_n hx hb dX0_addFeast_10 rfl (lv_at hl 1 rfl) ?_
  refine rd_get (k := 0) (v := .ref (L 3 0)) hx hb hown hu hE ok1 (cd_cal hC) (by decide) u37 (fun _ h => h) rfl dX0_addFeast_11 ?_
  refine rd_lenl hx hb hE (cd_tf hC) dX0_addFeast_14 ?_
  refine lv_icmp_ge (tgt := 33) hx hb dX0_addFeast_15 (by decide) (fun c2 => absurd c2 (show ¬ nI 313 ≤ _ from nI_ge (by omega) (by omega))) (fun c2 => ?_)
  refine lv_aload_n hx hb dX0_addFeast_18 rfl (lv_at hl 1 rfl) ?_
  refine rd_get (k := 0) (v := .ref (L 3 0)) hx hb hown hu hE ok1 (cd_cal hC) (by decide) u37 (fun _ h => h) rfl dX0_addFeast_19 ?_
  refine lv_iload_n hx hb dX0_addFeast_22 rfl (lv_at hl 0 rfl) ?_
  refine lv_dup2_11 hx hb dX0_addFeast_23 rfl rfl ?_
  refine rd_lald hx hb hE (cd_tf hC) (w_in hn) dX0_addFeast_24 ?_
  refine lv_lconst (v := 1) hx hb dX0_addFeast_25 (by decide) ?_
  refine lv_iload_n hx hb dX0_addFeast_26 rfl (lv_at hl 2 rfl) ?_
  refine lv_bipush (v := 63) hx hb dX0_addFeast_27 (by decide) ?_
  refine lv_iand hx hb dX0_addFeast_29 ?_
  refine lv_lshl hx hb dX0_addFeast_30 rfl ?_
  refine lv_lor hx hb dX0_addFeast_31 ?_
  refine wr_last hx hb hE hS (cd_A hC (cv_f (by omega))) (cd_tf hC) (w_in hn) dX0_addFeast_32 (fun H1 locs1 ho hz oq hS => ?_)
  have hC := cw_tf (j := x.toNatClampNeg) (x := 1) hC hI (by rw [← pk_set hX]; exact ho) oq
  exact ct_rv hx hb hr hlocks hS (⟨rfl, hC⟩) (Nat.le_of_ble_eq_true rfl) (Nat.le_of_ble_eq_true rfl) dX0_addFeast_33
set_option maxHeartbeats 1000000 in
set_option maxRecDepth 20000 in
theorem y_feast (l : Launch) (E : EV) (A : Nat → Prop) (σ : St) (L : Nat → Nat → Nat) (d : Int32) : Ct l E yX10_feast cX10_feast 2 (some .boolean) 1 22 0 0 A [.ref (L 0 0), .int d] (fun H => Cd E A σ L H ∧ InvM σ) (fun v H => ∃ L1, v = some (.int (k_feast σ d).1) ∧ Cd E A (k_feast σ d).2 L1 H ∧ L1 0 0 = L 0 0) := by
  refine Ct.of (by decide +kernel) (Nat.le_of_ble_eq_true rfl) (fun pg ev s mi bel mth cd hx hb hr hml hown hu hlocks hnm hE hP hA hZ ls hl => ?_)
  have hl : lv_has ls 2 [(0, .ref (L 0 0)), (1, .int d)] := hl
  have hS : va_S A s.heap s.heap [] := va_S.rf
  obtain ⟨hC, hI⟩ := hP
  refine lv_iload_n hx hb dX10_feast_0 rfl (lv_at hl 1 rfl) ?_
  refine cr_S (As := [.int d]) (rest := []) hx hb hml hown hu hE (x_isDay l E d) kX10_isDay u178 (trivial) ⟨Nat.le_of_ble_eq_true rfl, Nat.le_of_ble_eq_true rfl⟩ rfl hl.1 rfl (Nat.le_of_ble_eq_true rfl) ⟨Nat.le_of_ble_eq_true rfl, Nat.le_of_ble_eq_true rfl⟩ dX10_feast_1 ?_
  refine onB (fun b1 => ?_) (fun b1 => ?_)
  · refine lv_if_eq (tgt := 18) hx hb dX10_feast_4 (by decide) (fun c2 => absurd c2 (by decide)) (fun _ => ?_)
    refine lv_aload_n hx hb dX10_feast_7 rfl (lv_at hl 0 rfl) ?_
    refine rd_get (k := 4) (v := .ref (L 2 0)) hx hb hown hu hE ok11 (cd_reg hC) (by decide) u141 (fun _ h => h) rfl dX10_feast_8 ?_
    refine lv_iload_n hx hb dX10_feast_11 rfl (lv_at hl 1 rfl) ?_
    refine cr_V (As := [.int d]) (rest := []) hx hb hml hown hu hE (x_feast l E A σ L d) kX0_isFeast u359 (cd_cal hC) rfl rfl (⟨hC, hI, okD_of b1⟩) ⟨Nat.le_of_ble_eq_true rfl, Nat.le_of_ble_eq_true rfl⟩ rfl hl.1 rfl (Nat.le_of_ble_eq_true rfl) ⟨Nat.le_of_ble_eq_true rfl, Nat.le_of_ble_eq_true rfl⟩ dX10_feast_12 ?_
    refine onB (fun b3 => ?_) (fun b3 => ?_)
    · replace b3 := not_t b3
      refine lv_if_eq (tgt := 20) hx hb dX10_feast_15 (by decide) (fun c4 => absurd c4 (by decide)) (fun _ => ?_)
      refine lv_iconst (v := 0) hx hb dX10_feast_18 (by decide) ?_
      exact ct_rz hx hb hr hlocks hS (by (have hB : (!m_in d 0 20000 || !m_isFree σ d) = true := (by simp only [eq_self, b1, b3, Bool.not_true, Bool.not_false, Bool.and_true, Bool.true_and, Bool.and_false, Bool.false_and, Bool.or_true, Bool.true_or, Bool.or_false, Bool.false_or, Bool.and_self, Bool.or_self, eq_self, if_true, Bool.false_eq_true, if_false])); unfold k_feast; rw [hB]; exact ⟨L, rfl, hC, rfl⟩) (rfl) (Nat.le_of_ble_eq_true rfl) (Nat.le_of_ble_eq_true rfl) dX10_feast_19
    · replace b3 := not_f b3
      refine lv_if_eq (tgt := 20) hx hb dX10_feast_15 (by decide) (fun _ => ?_) (fun c5 => absurd (by decide) c5)
      refine lv_aload_n hx hb dX10_feast_20 rfl (lv_at hl 0 rfl) ?_
      refine rd_get (k := 4) (v := .ref (L 2 0)) hx hb hown hu hE ok11 (cd_reg hC) (by decide) u141 (fun _ h => h) rfl dX10_feast_21 ?_
      refine lv_iload_n hx hb dX10_feast_24 rfl (lv_at hl 1 rfl) ?_
      refine ct_V (As := [.int d]) (rest := []) hx hb hml hown hu hE hZ hS (fun _ h => h) (fun q h => hA q (Nat.le_trans hS.1 h)) (x_addF l E A σ L d) kX0_addFeast u363 (cd_cal hC) rfl rfl (⟨hC, hI, okD_of b1⟩) ⟨Nat.le_of_ble_eq_true rfl, Nat.le_of_ble_eq_true rfl⟩ rfl hl.1 rfl (Nat.le_of_ble_eq_true rfl) ⟨Nat.le_of_ble_eq_true rfl, Nat.le_of_ble_eq_true rfl⟩ dX10_feast_25 (fun v6 H1 locs1 hR hS hz hk => ?_)
      obtain ⟨rfl, hC⟩ := hR
      refine lv_iconst (v := 1) hx hb dX10_feast_28 (by decide) ?_
      exact ct_rz hx hb hr hlocks hS (by (have hB : (!m_in d 0 20000 || !m_isFree σ d) = false := (by simp only [eq_self, b1, b3, Bool.not_true, Bool.not_false, Bool.and_true, Bool.true_and, Bool.and_false, Bool.false_and, Bool.or_true, Bool.true_or, Bool.or_false, Bool.false_or, Bool.and_self, Bool.or_self, eq_self, if_true, Bool.false_eq_true, if_false])); unfold k_feast; rw [hB]; exact ⟨L, rfl, hC, rfl⟩) (rfl) (Nat.le_of_ble_eq_true rfl) (Nat.le_of_ble_eq_true rfl) dX10_feast_29
  · refine lv_if_eq (tgt := 18) hx hb dX10_feast_4 (by decide) (fun _ => ?_) (fun c7 => absurd (by decide) c7)
    refine lv_iconst (v := 0) hx hb dX10_feast_18 (by decide) ?_
    exact ct_rz hx hb hr hlocks hS (by (have hB : (!m_in d 0 20000 || !m_isFree σ d) = true := (by simp only [eq_self, b1, Bool.not_true, Bool.not_false, Bool.and_true, Bool.true_and, Bool.and_false, Bool.false_and, Bool.or_true, Bool.true_or, Bool.or_false, Bool.false_or, Bool.and_self, Bool.or_self, eq_self, if_true, Bool.false_eq_true, if_false])); unfold k_feast; rw [hB]; exact ⟨L, rfl, hC, rfl⟩) (rfl) (Nat.le_of_ble_eq_true rfl) (Nat.le_of_ble_eq_true rfl) dX10_feast_19
