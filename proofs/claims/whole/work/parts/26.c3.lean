set_option maxHeartbeats 1000000 in
set_option maxRecDepth 20000 in
theorem x_hourOf (l : Launch) (E : EV) (x : Int32) : Cr l E yX10_hourOf cX10_hourOf 1 (some .int) 0 0 [.int x] (fun H => True) (some (.int (x / 100))) := by
  refine Cr.of (by decide +kernel) (Nat.le_of_ble_eq_true rfl) (fun pg ev s mi bel mth cd hx hb hr hml hown hu hlocks hE hP ls hl => ?_)
  have hl : lv_has ls 1 [(0, .int x)] := hl
  refine lv_iload_n hx hb dX10_hourOf_0 rfl (lv_at hl 0 rfl) ?_
  refine lv_bipush (v := 100) hx hb dX10_hourOf_1 (by decide) ?_
  refine lv_idiv hx hb dX10_hourOf_3 (by decide) ?_
  exact cr_ri hx hb hr hlocks (rfl) dX10_hourOf_4
set_option maxHeartbeats 1000000 in
set_option maxRecDepth 20000 in
theorem x_hallOf (l : Launch) (E : EV) (x : Int32) : Cr l E yX10_hallOf cX10_hallOf 1 (some .int) 0 0 [.int x] (fun H => True) (some (.int (rm (x / 10) 10))) := by
  refine Cr.of (by decide +kernel) (Nat.le_of_ble_eq_true rfl) (fun pg ev s mi bel mth cd hx hb hr hml hown hu hlocks hE hP ls hl => ?_)
  have hl : lv_has ls 1 [(0, .int x)] := hl
  refine lv_iload_n hx hb dX10_hallOf_0 rfl (lv_at hl 0 rfl) ?_
  refine lv_bipush (v := 10) hx hb dX10_hallOf_1 (by decide) ?_
  refine lv_idiv hx hb dX10_hallOf_3 (by decide) ?_
  refine lv_bipush (v := 10) hx hb dX10_hallOf_4 (by decide) ?_
  refine lv_irem hx hb dX10_hallOf_6 (by decide) ?_
  exact cr_ri hx hb hr hlocks (rfl) dX10_hallOf_7
set_option maxHeartbeats 1000000 in
set_option maxRecDepth 20000 in
theorem x_regOf (l : Launch) (E : EV) (x : Int32) : Cr l E yX10_registrarOf cX10_registrarOf 1 (some .int) 0 0 [.int x] (fun H => True) (some (.int (rm x 10))) := by
  refine Cr.of (by decide +kernel) (Nat.le_of_ble_eq_true rfl) (fun pg ev s mi bel mth cd hx hb hr hml hown hu hlocks hE hP ls hl => ?_)
  have hl : lv_has ls 1 [(0, .int x)] := hl
  refine lv_iload_n hx hb dX10_registrarOf_0 rfl (lv_at hl 0 rfl) ?_
  refine lv_bipush (v := 10) hx hb dX10_registrarOf_1 (by decide) ?_
  refine lv_irem hx hb dX10_registrarOf_3 (by decide) ?_
  exact cr_ri hx hb hr hlocks (rfl) dX10_registrarOf_4
set_option maxHeartbeats 1000000 in
set_option maxRecDepth 20000 in
theorem x_slotOf (l : Launch) (E : EV) (h w r : Int32) : Cr l E yX10_slotOf cX10_slotOf 3 (some .int) 0 0 [.int h, .int w, .int r] (fun H => True) (some (.int (h * 100 + w * 10 + r))) := by
  refine Cr.of (by decide +kernel) (Nat.le_of_ble_eq_true rfl) (fun pg ev s mi bel mth cd hx hb hr hml hown hu hlocks hE hP ls hl => ?_)
  have hl : lv_has ls 3 [(0, .int h), (1, .int w), (2, .int r)] := hl
  refine lv_iload_n hx hb dX10_slotOf_0 rfl (lv_at hl 0 rfl) ?_
  refine lv_bipush (v := 100) hx hb dX10_slotOf_1 (by decide) ?_
  refine lv_imul hx hb dX10_slotOf_3 ?_
  refine lv_iload_n hx hb dX10_slotOf_4 rfl (lv_at hl 1 rfl) ?_
  refine lv_bipush (v := 10) hx hb dX10_slotOf_5 (by decide) ?_
  refine lv_imul hx hb dX10_slotOf_7 ?_
  refine lv_iadd hx hb dX10_slotOf_8 ?_
  refine lv_iload_n hx hb dX10_slotOf_9 rfl (lv_at hl 2 rfl) ?_
  refine lv_iadd hx hb dX10_slotOf_10 ?_
  exact cr_ri hx hb hr hlocks (rfl) dX10_slotOf_11
set_option maxHeartbeats 1000000 in
set_option maxRecDepth 20000 in
theorem x_isSlot (l : Launch) (E : EV) (A : Nat → Prop) (σ : St) (L : Nat → Nat → Nat) (x : Int32) : Cr l E yX10_isSlot cX10_isSlot 3 (some .boolean) 1 20 [.ref (L 0 0), .int x] (fun H => Cd E A σ L H ∧ InvM σ) (some (.int (bI (c_isSlot σ x)))) := by
  refine Cr.of (by decide +kernel) (Nat.le_of_ble_eq_true rfl) (fun pg ev s mi bel mth cd hx hb hr hml hown hu hlocks hE hP ls hl => ?_)
  have hl : lv_has ls 3 [(0, .ref (L 0 0)), (1, .int x)] := hl
  obtain ⟨hC, hI⟩ := hP
  refine lv_iload_n hx hb dX10_isSlot_0 rfl (lv_at hl 1 rfl) ?_
  refine lv_if_ge (tgt := 6) hx hb dX10_isSlot_1 (by decide) (fun c1 => ?_) (fun c1 => ?_)
  · refine lv_iload_n hx hb dX10_isSlot_6 rfl (lv_at hl 1 rfl) ?_
    refine cr_S (As := [.int x]) (rest := []) hx hb hml hown hu hE (x_hourOf l E x) kX10_hourOf u565 (trivial) ⟨Nat.le_of_ble_eq_true rfl, Nat.le_of_ble_eq_true rfl⟩ rfl hl.1 rfl (Nat.le_of_ble_eq_true rfl) ⟨Nat.le_of_ble_eq_true rfl, Nat.le_of_ble_eq_true rfl⟩ dX10_isSlot_7 ?_
    refine lv_istore_n (lv' := [(2, .int (x / 100)), (0, .ref (L 0 0)), (1, .int x)]) hx hb dX10_isSlot_10 rfl hl (by decide) rfl (fun ls hl => ?_)
    refine lv_iload_n hx hb dX10_isSlot_11 rfl (lv_at hl 0 rfl) ?_
    refine lv_bipush (v := 8) hx hb dX10_isSlot_12 (by decide) ?_
    refine lv_icmp_lt (tgt := 46) hx hb dX10_isSlot_14 (by decide) (fun c2 => ?_) (fun c2 => ?_)
    · refine lv_iconst (v := 0) hx hb dX10_isSlot_46 (by decide) ?_
      exact cr_rz hx hb hr hlocks (by simp only [c_isSlot, decide_eq_false (Int32.not_lt.mpr c1), decide_eq_true c2, Bool.not_true, Bool.not_false, Bool.and_true, Bool.true_and, Bool.and_false, Bool.false_and, Bool.or_true, Bool.true_or, Bool.or_false, Bool.false_or, Bool.and_self, Bool.or_self, eq_self, if_true, Bool.false_eq_true, if_false] <;> rfl) (rfl) dX10_isSlot_47
    · refine lv_iload_n hx hb dX10_isSlot_17 rfl (lv_at hl 0 rfl) ?_
      refine lv_bipush (v := 18) hx hb dX10_isSlot_18 (by decide) ?_
      refine lv_icmp_ge (tgt := 46) hx hb dX10_isSlot_20 (by decide) (fun c3 => ?_) (fun c3 => ?_)
      · refine lv_iconst (v := 0) hx hb dX10_isSlot_46 (by decide) ?_
        exact cr_rz hx hb hr hlocks (by simp only [c_isSlot, decide_eq_false (Int32.not_lt.mpr c1), decide_eq_false c2, decide_eq_false (Int32.not_lt.mpr c3), Bool.not_true, Bool.not_false, Bool.and_true, Bool.true_and, Bool.and_false, Bool.false_and, Bool.or_true, Bool.true_or, Bool.or_false, Bool.false_or, Bool.and_self, Bool.or_self, eq_self, if_true, Bool.false_eq_true, if_false] <;> rfl) (rfl) dX10_isSlot_47
      · refine lv_iload_n hx hb dX10_isSlot_23 rfl (lv_at hl 2 rfl) ?_
        refine cr_S (As := [.int x]) (rest := []) hx hb hml hown hu hE (x_hallOf l E x) kX10_hallOf u568 (trivial) ⟨Nat.le_of_ble_eq_true rfl, Nat.le_of_ble_eq_true rfl⟩ rfl hl.1 rfl (Nat.le_of_ble_eq_true rfl) ⟨Nat.le_of_ble_eq_true rfl, Nat.le_of_ble_eq_true rfl⟩ dX10_isSlot_24 ?_
        refine lv_iconst (v := 4) hx hb dX10_isSlot_27 (by decide) ?_
        refine lv_icmp_ge (tgt := 46) hx hb dX10_isSlot_28 (by decide) (fun c4 => ?_) (fun c4 => ?_)
        · refine lv_iconst (v := 0) hx hb dX10_isSlot_46 (by decide) ?_
          exact cr_rz hx hb hr hlocks (by simp only [c_isSlot, decide_eq_false (Int32.not_lt.mpr c1), decide_eq_false c2, decide_eq_true (Int32.not_le.mp c3), decide_eq_false (Int32.not_lt.mpr c4), Bool.not_true, Bool.not_false, Bool.and_true, Bool.true_and, Bool.and_false, Bool.false_and, Bool.or_true, Bool.true_or, Bool.or_false, Bool.false_or, Bool.and_self, Bool.or_self, eq_self, if_true, Bool.false_eq_true, if_false] <;> rfl) (rfl) dX10_isSlot_47
        · refine lv_iload_n hx hb dX10_isSlot_31 rfl (lv_at hl 2 rfl) ?_
          refine cr_S (As := [.int x]) (rest := []) hx hb hml hown hu hE (x_regOf l E x) kX10_registrarOf u571 (trivial) ⟨Nat.le_of_ble_eq_true rfl, Nat.le_of_ble_eq_true rfl⟩ rfl hl.1 rfl (Nat.le_of_ble_eq_true rfl) ⟨Nat.le_of_ble_eq_true rfl, Nat.le_of_ble_eq_true rfl⟩ dX10_isSlot_32 ?_
          refine lv_aload_n hx hb dX10_isSlot_35 rfl (lv_at hl 1 rfl) ?_
          refine rd_get (k := 2) (v := .int (σ 28 0)) hx hb hown hu hE ok11 (cd_reg hC) (by decide) u139 (fun _ h => h) rfl dX10_isSlot_36 ?_
          refine lv_icmp_ge (tgt := 46) hx hb dX10_isSlot_39 (by decide) (fun c5 => ?_) (fun c5 => ?_)
          · refine lv_iconst (v := 0) hx hb dX10_isSlot_46 (by decide) ?_
            exact cr_rz hx hb hr hlocks (by simp only [c_isSlot, decide_eq_false (Int32.not_lt.mpr c1), decide_eq_false c2, decide_eq_true (Int32.not_le.mp c3), decide_eq_true (Int32.not_le.mp c4), decide_eq_false (Int32.not_lt.mpr c5), Bool.not_true, Bool.not_false, Bool.and_true, Bool.true_and, Bool.and_false, Bool.false_and, Bool.or_true, Bool.true_or, Bool.or_false, Bool.false_or, Bool.and_self, Bool.or_self, eq_self, if_true, Bool.false_eq_true, if_false] <;> rfl) (rfl) dX10_isSlot_47
          · refine lv_iconst (v := 1) hx hb dX10_isSlot_42 (by decide) ?_
            refine lv_goto (tgt := 47) hx hb dX10_isSlot_43 (by decide) ?_
            exact cr_rz hx hb hr hlocks (by simp only [c_isSlot, decide_eq_false (Int32.not_lt.mpr c1), decide_eq_false c2, decide_eq_true (Int32.not_le.mp c3), decide_eq_true (Int32.not_le.mp c4), decide_eq_true (Int32.not_le.mp c5), Bool.not_true, Bool.not_false, Bool.and_true, Bool.true_and, Bool.and_false, Bool.false_and, Bool.or_true, Bool.true_or, Bool.or_false, Bool.false_or, Bool.and_self, Bool.or_self, eq_self, if_true, Bool.false_eq_true, if_false] <;> rfl) (rfl) dX10_isSlot_47
  · refine lv_iconst (v := 0) hx hb dX10_isSlot_4 (by decide) ?_
    exact cr_rz hx hb hr hlocks (by simp only [c_isSlot, decide_eq_true (Int32.not_le.mp c1), Bool.not_true, Bool.not_false, Bool.and_true, Bool.true_and, Bool.and_false, Bool.false_and, Bool.or_true, Bool.true_or, Bool.or_false, Bool.false_or, Bool.and_self, Bool.or_self, eq_self, if_true, Bool.false_eq_true, if_false] <;> rfl) (rfl) dX10_isSlot_5
set_option maxHeartbeats 1000000 in
set_option maxRecDepth 20000 in
theorem x_speaks (l : Launch) (E : EV) (A : Nat → Prop) (σ : St) (L : Nat → Nat → Nat) (r n : Int32) : Cr l E yX10_speaksWithBoth cX10_speaksWithBoth 4 (some .boolean) 0 0 [.ref (L 0 0), .int r, .ref (L 22 n.toNatClampNeg)] (fun H => Cd E A σ L H ∧ InvM σ ∧ okN σ n) (some (.int (bI (c_speaks σ r n)))) := by
  refine Cr.of (by decide +kernel) (Nat.le_of_ble_eq_true rfl) (fun pg ev s mi bel mth cd hx hb hr hml hown hu hlocks hE hP ls hl => ?_)
  have hl : lv_has ls 4 [(0, .ref (L 0 0)), (1, .int r), (2, .ref (L 22 n.toNatClampNeg))] := hl
  obtain ⟨hC, hI, hX⟩ := hP
  refine lv_iload_n hx hb dX10_speaksWithBoth_0 rfl (lv_at hl 1 rfl) ?_
  refine lv_if_lt (tgt := 13) hx hb dX10_speaksWithBoth_1 (by decide) (fun c1 => ?_) (fun c1 => ?_)
  · refine lv_iconst (v := 0) hx hb dX10_speaksWithBoth_13 (by decide) ?_
    exact cr_rz hx hb hr hlocks (by simp only [c_speaks, decide_eq_true c1, Bool.not_true, Bool.not_false, Bool.and_true, Bool.true_and, Bool.and_false, Bool.false_and, Bool.or_true, Bool.true_or, Bool.or_false, Bool.false_or, Bool.and_self, Bool.or_self, eq_self, if_true, Bool.false_eq_true, if_false] <;> rfl) (rfl) dX10_speaksWithBoth_14
  · refine lv_iload_n hx hb dX10_speaksWithBoth_4 rfl (lv_at hl 1 rfl) ?_
    refine lv_aload_n hx hb dX10_speaksWithBoth_5 rfl (lv_at hl 0 rfl) ?_
    refine rd_get (k := 3) (v := .ref (L 1 0)) hx hb hown hu hE ok11 (cd_reg hC) (by decide) u140 (fun _ h => h) rfl dX10_speaksWithBoth_6 ?_
    refine rd_leni hx hb hE (cd_rt hC) dX10_speaksWithBoth_9 ?_
    refine lv_icmp_lt (tgt := 15) hx hb dX10_speaksWithBoth_10 (by decide) (fun c2 => ?_) (fun c2 => ?_)
    · refine lv_aload_n hx hb dX10_speaksWithBoth_15 rfl (lv_at hl 0 rfl) ?_
      refine rd_get (k := 3) (v := .ref (L 1 0)) hx hb hown hu hE ok11 (cd_reg hC) (by decide) u140 (fun _ h => h) rfl dX10_speaksWithBoth_16 ?_
      refine lv_iload_n hx hb dX10_speaksWithBoth_19 rfl (lv_at hl 1 rfl) ?_
      refine rd_iald hx hb hE (cd_rt hC) (in6 c1 c2) dX10_speaksWithBoth_20 ?_
      refine lv_istore_n (lv' := [(3, .int (gA σ 27 r)), (0, .ref (L 0 0)), (1, .int r), (2, .ref (L 22 n.toNatClampNeg))]) hx hb dX10_speaksWithBoth_21 rfl hl (by decide) rfl (fun ls hl => ?_)
      refine lv_iload_n hx hb dX10_speaksWithBoth_22 rfl (lv_at hl 0 rfl) ?_
      refine lv_aload_n hx hb dX10_speaksWithBoth_23 rfl (lv_at hl 3 rfl) ?_
      refine rd_get (k := 1) (v := .ref (L 21 (gA σ 17 n).toNatClampNeg)) hx hb hown hu hE ok7 (cd_not hC (okN_lt hX)) (by decide) u451 (fun _ h => h) rfl dX10_speaksWithBoth_24 ?_
      refine rd_get (k := 2) (v := .int (gA σ 8 (gA σ 17 n))) hx hb hown hu hE ok10 (cd_per hC (okP_lt (one_ok hI hX))) (by decide) u303 (fun _ h => h) rfl dX10_speaksWithBoth_27 ?_
      refine lv_iand hx hb dX10_speaksWithBoth_30 ?_
      refine lv_if_eq (tgt := 50) hx hb dX10_speaksWithBoth_31 (by decide) (fun c3 => ?_) (fun c3 => ?_)
      · refine lv_iconst (v := 0) hx hb dX10_speaksWithBoth_50 (by decide) ?_
        exact cr_rz hx hb hr hlocks (by simp only [c_speaks, decide_eq_false c1, decide_eq_true c2, decide_eq_true c3, Bool.not_true, Bool.not_false, Bool.and_true, Bool.true_and, Bool.and_false, Bool.false_and, Bool.or_true, Bool.true_or, Bool.or_false, Bool.false_or, Bool.and_self, Bool.or_self, eq_self, if_true, Bool.false_eq_true, if_false] <;> rfl) (rfl) dX10_speaksWithBoth_51
      · refine lv_iload_n hx hb dX10_speaksWithBoth_34 rfl (lv_at hl 0 rfl) ?_
        refine lv_aload_n hx hb dX10_speaksWithBoth_35 rfl (lv_at hl 3 rfl) ?_
        refine rd_get (k := 2) (v := .ref (L 21 (gA σ 18 n).toNatClampNeg)) hx hb hown hu hE ok7 (cd_not hC (okN_lt hX)) (by decide) u454 (fun _ h => h) rfl dX10_speaksWithBoth_36 ?_
        refine rd_get (k := 2) (v := .int (gA σ 8 (gA σ 18 n))) hx hb hown hu hE ok10 (cd_per hC (okP_lt (oth_ok hI hX))) (by decide) u303 (fun _ h => h) rfl dX10_speaksWithBoth_39 ?_
        refine lv_iand hx hb dX10_speaksWithBoth_42 ?_
        refine lv_if_eq (tgt := 50) hx hb dX10_speaksWithBoth_43 (by decide) (fun c4 => ?_) (fun c4 => ?_)
        · refine lv_iconst (v := 0) hx hb dX10_speaksWithBoth_50 (by decide) ?_
          exact cr_rz hx hb hr hlocks (by simp only [c_speaks, decide_eq_false c1, decide_eq_true c2, decide_eq_false c3, decide_eq_true c4, Bool.not_true, Bool.not_false, Bool.and_true, Bool.true_and, Bool.and_false, Bool.false_and, Bool.or_true, Bool.true_or, Bool.or_false, Bool.false_or, Bool.and_self, Bool.or_self, eq_self, if_true, Bool.false_eq_true, if_false] <;> rfl) (rfl) dX10_speaksWithBoth_51
        · refine lv_iconst (v := 1) hx hb dX10_speaksWithBoth_46 (by decide) ?_
          refine lv_goto (tgt := 51) hx hb dX10_speaksWithBoth_47 (by decide) ?_
          exact cr_rz hx hb hr hlocks (by simp only [c_speaks, decide_eq_false c1, decide_eq_true c2, decide_eq_false c3, decide_eq_false c4, Bool.not_true, Bool.not_false, Bool.and_true, Bool.true_and, Bool.and_false, Bool.false_and, Bool.or_true, Bool.true_or, Bool.or_false, Bool.false_or, Bool.and_self, Bool.or_self, eq_self, if_true, Bool.false_eq_true, if_false] <;> rfl) (rfl) dX10_speaksWithBoth_51
    · refine lv_iconst (v := 0) hx hb dX10_speaksWithBoth_13 (by decide) ?_
      exact cr_rz hx hb hr hlocks (by simp only [c_speaks, decide_eq_false c1, decide_eq_false c2, Bool.not_true, Bool.not_false, Bool.and_true, Bool.true_and, Bool.and_false, Bool.false_and, Bool.or_true, Bool.true_or, Bool.or_false, Bool.false_or, Bool.and_self, Bool.or_self, eq_self, if_true, Bool.false_eq_true, if_false] <;> rfl) (rfl) dX10_speaksWithBoth_14
set_option maxHeartbeats 1000000 in
set_option maxRecDepth 20000 in
theorem x_nameA (l : Launch) (E : EV) (A : Nat → Prop) (σ : St) (L : Nat → Nat → Nat) (e wh lw : Int32) : Cr l E yX10_nameAfter cX10_nameAfter 6 (some .int) 4 89 [.ref (L 0 0), .ref (L 24 e.toNatClampNeg), .int wh, .int lw] (fun H => Cd E A σ L H ∧ InvM σ ∧ okE σ e ∧ InvJ σ ∧ InvL σ) (some (.int (k_nameOf σ e wh lw))) := by
  refine Cr.of (by decide +kernel) (Nat.le_of_ble_eq_true rfl) (fun pg ev s mi bel mth cd hx hb hr hml hown hu hlocks hE hP ls hl => ?_)
  have hl : lv_has ls 6 [(0, .ref (L 0 0)), (1, .ref (L 24 e.toNatClampNeg)), (2, .int wh), (3, .int lw)] := hl
  obtain ⟨hC, hI, hX, hJ, hL⟩ := hP
  refine lv_iload_n hx hb dX10_nameAfter_0 rfl (lv_at hl 3 rfl) ?_
  refine lv_if_ne (tgt := 17) hx hb dX10_nameAfter_1 (by decide) (fun c1 => ?_) (fun c1 => ?_)
  · refine lv_aload_n hx hb dX10_nameAfter_17 rfl (lv_at hl 1 rfl) ?_
    refine rd_get (k := 0) (v := .ref (L 22 (gR σ 200 e 7).toNatClampNeg)) hx hb hown hu hE ok4 (cd_ent hC (okE_lt hX)) (by decide) u656 (fun _ h => h) rfl dX10_nameAfter_18 ?_
    refine rd_get (k := 2) (v := .ref (L 21 (gA σ 18 (gR σ 200 e 7)).toNatClampNeg)) hx hb hown hu hE ok7 (cd_not hC (okN_lt (en_ok hJ hX))) (by decide) u454 (fun _ h => h) rfl dX10_nameAfter_21 ?_
    refine rd_get (k := 1) (v := .int (gA σ 4 (gA σ 18 (gR σ 200 e 7)))) hx hb hown hu hE ok10 (cd_per hC (okP_lt (oth_ok hI (en_ok hJ hX)))) (by decide) u301 (fun _ h => h) rfl dX10_nameAfter_24 ?_
    refine lv_istore (lv' := [(4, .int (gA σ 4 (gA σ 18 (gR σ 200 e 7)))), (0, .ref (L 0 0)), (1, .ref (L 24 e.toNatClampNeg)), (2, .int wh), (3, .int lw)]) hx hb dX10_nameAfter_27 hl (by decide) rfl (fun ls hl => ?_)
    refine lv_aload_n hx hb dX10_nameAfter_29 rfl (lv_at hl 1 rfl) ?_
    refine rd_get (k := 5) (v := .ref (L 4 0)) hx hb hown hu hE ok11 (cd_reg hC) (by decide) u142 (fun _ h => h) rfl dX10_nameAfter_30 ?_
    refine lv_iload hx hb dX10_nameAfter_33 (lv_at hl 0 rfl) ?_
    refine lv_aload_n hx hb dX10_nameAfter_35 rfl (lv_at hl 2 rfl) ?_
    refine rd_get (k := 1) (v := .int (gR σ 200 e 0)) hx hb hown hu hE ok4 (cd_ent hC (okE_lt hX)) (by decide) u658 (fun _ h => h) rfl dX10_nameAfter_36 ?_
    refine cr_V (As := [.int (gA σ 4 (gA σ 18 (gR σ 200 e 7))), .int (gR σ 200 e 0)]) (rest := []) hx hb hml hown hu hE (x_inF l E A σ L (gA σ 4 (gA σ 18 (gR σ 200 e 7))) (gR σ 200 e 0)) kX5_inForce u407 (cd_lb hC) rfl rfl (⟨hC, hI, hL⟩) ⟨Nat.le_of_ble_eq_true rfl, Nat.le_of_ble_eq_true rfl⟩ rfl hl.1 rfl (Nat.le_of_ble_eq_true rfl) ⟨Nat.le_of_ble_eq_true rfl, Nat.le_of_ble_eq_true rfl⟩ dX10_nameAfter_39 ?_
    refine rd_get (k := 5) (v := .int (m_ask σ (gA σ 4 (gA σ 18 (gR σ 200 e 7))) (gR σ 200 e 0) 7)) hx hb hown hu hE ok5 (cd_lawR hC hI (gA σ 4 (gA σ 18 (gR σ 200 e 7))) (gR σ 200 e 0)) (by decide) u93 (fun _ h => h) rfl dX10_nameAfter_42 ?_
    refine lv_istore (lv' := [(5, .int (m_ask σ (gA σ 4 (gA σ 18 (gR σ 200 e 7))) (gR σ 200 e 0) 7)), (4, .int (gA σ 4 (gA σ 18 (gR σ 200 e 7)))), (0, .ref (L 0 0)), (1, .ref (L 24 e.toNatClampNeg)), (2, .int wh), (3, .int lw)]) hx hb dX10_nameAfter_45 hl (by decide) rfl (fun ls hl => ?_)
    refine lv_iload hx hb dX10_nameAfter_47 (lv_at hl 0 rfl) ?_
    refine lv_iconst (v := 2) hx hb dX10_nameAfter_49 (by decide) ?_
    refine lv_icmp_ne (tgt := 67) hx hb dX10_nameAfter_50 (by decide) (fun c2 => ?_) (fun c2 => ?_)
    · refine lv_iload hx hb dX10_nameAfter_67 (lv_at hl 0 rfl) ?_
      refine lv_iconst (v := 1) hx hb dX10_nameAfter_69 (by decide) ?_
      refine lv_icmp_eq (tgt := 77) hx hb dX10_nameAfter_70 (by decide) (fun c3 => ?_) (fun c3 => ?_)
      · refine lv_aload_n hx hb dX10_nameAfter_77 rfl (lv_at hl 3 rfl) ?_
        refine rd_get (k := 2) (v := .int (gR σ 200 e 1)) hx hb hown hu hE ok4 (cd_ent hC (okE_lt hX)) (by decide) u660 (fun _ h => h) rfl dX10_nameAfter_78 ?_
        refine lv_goto (tgt := 88) hx hb dX10_nameAfter_81 (by decide) ?_
        exact cr_ri hx hb hr hlocks (by simp only [k_nameOf, c_nlaw, decide_eq_false c1, decide_eq_false c2, decide_eq_true c3, Bool.not_true, Bool.not_false, Bool.and_true, Bool.true_and, Bool.and_false, Bool.false_and, Bool.or_true, Bool.true_or, Bool.or_false, Bool.false_or, Bool.and_self, Bool.or_self, eq_self, if_true, Bool.false_eq_true, if_false]) dX10_nameAfter_88
      · refine lv_iload_n hx hb dX10_nameAfter_73 rfl (lv_at hl 4 rfl) ?_
        refine lv_if_ne (tgt := 84) hx hb dX10_nameAfter_74 (by decide) (fun c4 => ?_) (fun c4 => ?_)
        · refine lv_aload_n hx hb dX10_nameAfter_84 rfl (lv_at hl 3 rfl) ?_
          refine rd_get (k := 3) (v := .int (gR σ 200 e 2)) hx hb hown hu hE ok4 (cd_ent hC (okE_lt hX)) (by decide) u662 (fun _ h => h) rfl dX10_nameAfter_85 ?_
          exact cr_ri hx hb hr hlocks (by simp only [k_nameOf, c_nlaw, decide_eq_false c1, decide_eq_false c2, decide_eq_false c3, decide_eq_false c4, Bool.not_true, Bool.not_false, Bool.and_true, Bool.true_and, Bool.and_false, Bool.false_and, Bool.or_true, Bool.true_or, Bool.or_false, Bool.false_or, Bool.and_self, Bool.or_self, eq_self, if_true, Bool.false_eq_true, if_false]) dX10_nameAfter_88
        · refine lv_aload_n hx hb dX10_nameAfter_77 rfl (lv_at hl 3 rfl) ?_
          refine rd_get (k := 2) (v := .int (gR σ 200 e 1)) hx hb hown hu hE ok4 (cd_ent hC (okE_lt hX)) (by decide) u660 (fun _ h => h) rfl dX10_nameAfter_78 ?_
          refine lv_goto (tgt := 88) hx hb dX10_nameAfter_81 (by decide) ?_
          exact cr_ri hx hb hr hlocks (by simp only [k_nameOf, c_nlaw, decide_eq_false c1, decide_eq_false c2, decide_eq_false c3, decide_eq_true c4, Bool.not_true, Bool.not_false, Bool.and_true, Bool.true_and, Bool.and_false, Bool.false_and, Bool.or_true, Bool.true_or, Bool.or_false, Bool.false_or, Bool.and_self, Bool.or_self, eq_self, if_true, Bool.false_eq_true, if_false]) dX10_nameAfter_88
    · refine lv_aload_n hx hb dX10_nameAfter_53 rfl (lv_at hl 3 rfl) ?_
      refine rd_get (k := 2) (v := .int (gR σ 200 e 1)) hx hb hown hu hE ok4 (cd_ent hC (okE_lt hX)) (by decide) u660 (fun _ h => h) rfl dX10_nameAfter_54 ?_
      refine lv_sipush (v := 10000) hx hb dX10_nameAfter_57 (by decide) ?_
      refine lv_imul hx hb dX10_nameAfter_60 ?_
      refine lv_aload_n hx hb dX10_nameAfter_61 rfl (lv_at hl 3 rfl) ?_
      refine rd_get (k := 3) (v := .int (gR σ 200 e 2)) hx hb hown hu hE ok4 (cd_ent hC (okE_lt hX)) (by decide) u662 (fun _ h => h) rfl dX10_nameAfter_62 ?_
      refine lv_iadd hx hb dX10_nameAfter_65 ?_
      exact cr_ri hx hb hr hlocks (by simp only [k_nameOf, c_nlaw, decide_eq_false c1, decide_eq_true c2, Bool.not_true, Bool.not_false, Bool.and_true, Bool.true_and, Bool.and_false, Bool.false_and, Bool.or_true, Bool.true_or, Bool.or_false, Bool.false_or, Bool.and_self, Bool.or_self, eq_self, if_true, Bool.false_eq_true, if_false]) dX10_nameAfter_66
  · refine lv_aload_n hx hb dX10_nameAfter_4 rfl (lv_at hl 1 rfl) ?_
    refine rd_get (k := 0) (v := .ref (L 22 (gR σ 200 e 7).toNatClampNeg)) hx hb hown hu hE ok4 (cd_ent hC (okE_lt hX)) (by decide) u656 (fun _ h => h) rfl dX10_nameAfter_5 ?_
    refine rd_get (k := 1) (v := .ref (L 21 (gA σ 17 (gR σ 200 e 7)).toNatClampNeg)) hx hb hown hu hE ok7 (cd_not hC (okN_lt (en_ok hJ hX))) (by decide) u451 (fun _ h => h) rfl dX10_nameAfter_8 ?_
    refine rd_get (k := 1) (v := .int (gA σ 4 (gA σ 17 (gR σ 200 e 7)))) hx hb hown hu hE ok10 (cd_per hC (okP_lt (one_ok hI (en_ok hJ hX)))) (by decide) u301 (fun _ h => h) rfl dX10_nameAfter_11 ?_
    refine lv_goto (tgt := 27) hx hb dX10_nameAfter_14 (by decide) ?_
    refine lv_istore (lv' := [(4, .int (gA σ 4 (gA σ 17 (gR σ 200 e 7)))), (0, .ref (L 0 0)), (1, .ref (L 24 e.toNatClampNeg)), (2, .int wh), (3, .int lw)]) hx hb dX10_nameAfter_27 hl (by decide) rfl (fun ls hl => ?_)
    refine lv_aload_n hx hb dX10_nameAfter_29 rfl (lv_at hl 1 rfl) ?_
    refine rd_get (k := 5) (v := .ref (L 4 0)) hx hb hown hu hE ok11 (cd_reg hC) (by decide) u142 (fun _ h => h) rfl dX10_nameAfter_30 ?_
    refine lv_iload hx hb dX10_nameAfter_33 (lv_at hl 0 rfl) ?_
    refine lv_aload_n hx hb dX10_nameAfter_35 rfl (lv_at hl 2 rfl) ?_
    refine rd_get (k := 1) (v := .int (gR σ 200 e 0)) hx hb hown hu hE ok4 (cd_ent hC (okE_lt hX)) (by decide) u658 (fun _ h => h) rfl dX10_nameAfter_36 ?_
    refine cr_V (As := [.int (gA σ 4 (gA σ 17 (gR σ 200 e 7))), .int (gR σ 200 e 0)]) (rest := []) hx hb hml hown hu hE (x_inF l E A σ L (gA σ 4 (gA σ 17 (gR σ 200 e 7))) (gR σ 200 e 0)) kX5_inForce u407 (cd_lb hC) rfl rfl (⟨hC, hI, hL⟩) ⟨Nat.le_of_ble_eq_true rfl, Nat.le_of_ble_eq_true rfl⟩ rfl hl.1 rfl (Nat.le_of_ble_eq_true rfl) ⟨Nat.le_of_ble_eq_true rfl, Nat.le_of_ble_eq_true rfl⟩ dX10_nameAfter_39 ?_
    refine rd_get (k := 5) (v := .int (m_ask σ (gA σ 4 (gA σ 17 (gR σ 200 e 7))) (gR σ 200 e 0) 7)) hx hb hown hu hE ok5 (cd_lawR hC hI (gA σ 4 (gA σ 17 (gR σ 200 e 7))) (gR σ 200 e 0)) (by decide) u93 (fun _ h => h) rfl dX10_nameAfter_42 ?_
    refine lv_istore (lv' := [(5, .int (m_ask σ (gA σ 4 (gA σ 17 (gR σ 200 e 7))) (gR σ 200 e 0) 7)), (4, .int (gA σ 4 (gA σ 17 (gR σ 200 e 7)))), (0, .ref (L 0 0)), (1, .ref (L 24 e.toNatClampNeg)), (2, .int wh), (3, .int lw)]) hx hb dX10_nameAfter_45 hl (by decide) rfl (fun ls hl => ?_)
    refine lv_iload hx hb dX10_nameAfter_47 (lv_at hl 0 rfl) ?_
    refine lv_iconst (v := 2) hx hb dX10_nameAfter_49 (by decide) ?_
    refine lv_icmp_ne (tgt := 67) hx hb dX10_nameAfter_50 (by decide) (fun c5 => ?_) (fun c5 => ?_)
    · refine lv_iload hx hb dX10_nameAfter_67 (lv_at hl 0 rfl) ?_
      refine lv_iconst (v := 1) hx hb dX10_nameAfter_69 (by decide) ?_
      refine lv_icmp_eq (tgt := 77) hx hb dX10_nameAfter_70 (by decide) (fun c6 => ?_) (fun c6 => ?_)
      · refine lv_aload_n hx hb dX10_nameAfter_77 rfl (lv_at hl 3 rfl) ?_
        refine rd_get (k := 2) (v := .int (gR σ 200 e 1)) hx hb hown hu hE ok4 (cd_ent hC (okE_lt hX)) (by decide) u660 (fun _ h => h) rfl dX10_nameAfter_78 ?_
        refine lv_goto (tgt := 88) hx hb dX10_nameAfter_81 (by decide) ?_
        exact cr_ri hx hb hr hlocks (by simp only [k_nameOf, c_nlaw, decide_eq_true c1, decide_eq_false c5, decide_eq_true c6, Bool.not_true, Bool.not_false, Bool.and_true, Bool.true_and, Bool.and_false, Bool.false_and, Bool.or_true, Bool.true_or, Bool.or_false, Bool.false_or, Bool.and_self, Bool.or_self, eq_self, if_true, Bool.false_eq_true, if_false]) dX10_nameAfter_88
      · refine lv_iload_n hx hb dX10_nameAfter_73 rfl (lv_at hl 4 rfl) ?_
        refine lv_if_ne (tgt := 84) hx hb dX10_nameAfter_74 (by decide) (fun c7 => ?_) (fun c7 => ?_)
        · refine lv_aload_n hx hb dX10_nameAfter_84 rfl (lv_at hl 3 rfl) ?_
          refine rd_get (k := 3) (v := .int (gR σ 200 e 2)) hx hb hown hu hE ok4 (cd_ent hC (okE_lt hX)) (by decide) u662 (fun _ h => h) rfl dX10_nameAfter_85 ?_
          exact cr_ri hx hb hr hlocks (by simp only [k_nameOf, c_nlaw, decide_eq_true c1, decide_eq_false c5, decide_eq_false c6, decide_eq_false c7, Bool.not_true, Bool.not_false, Bool.and_true, Bool.true_and, Bool.and_false, Bool.false_and, Bool.or_true, Bool.true_or, Bool.or_false, Bool.false_or, Bool.and_self, Bool.or_self, eq_self, if_true, Bool.false_eq_true, if_false]) dX10_nameAfter_88
        · refine lv_aload_n hx hb dX10_nameAfter_77 rfl (lv_at hl 3 rfl) ?_
          refine rd_get (k := 2) (v := .int (gR σ 200 e 1)) hx hb hown hu hE ok4 (cd_ent hC (okE_lt hX)) (by decide) u660 (fun _ h => h) rfl dX10_nameAfter_78 ?_
          refine lv_goto (tgt := 88) hx hb dX10_nameAfter_81 (by decide) ?_
          exact cr_ri hx hb hr hlocks (by simp only [k_nameOf, c_nlaw, decide_eq_true c1, decide_eq_false c5, decide_eq_false c6, decide_eq_true c7, Bool.not_true, Bool.not_false, Bool.and_true, Bool.true_and, Bool.and_false, Bool.false_and, Bool.or_true, Bool.true_or, Bool.or_false, Bool.false_or, Bool.and_self, Bool.or_self, eq_self, if_true, Bool.false_eq_true, if_false]) dX10_nameAfter_88
    · refine lv_aload_n hx hb dX10_nameAfter_53 rfl (lv_at hl 3 rfl) ?_
      refine rd_get (k := 2) (v := .int (gR σ 200 e 1)) hx hb hown hu hE ok4 (cd_ent hC (okE_lt hX)) (by decide) u660 (fun _ h => h) rfl dX10_nameAfter_54 ?_
      refine lv_sipush (v := 10000) hx hb dX10_nameAfter_57 (by decide) ?_
      refine lv_imul hx hb dX10_nameAfter_60 ?_
      refine lv_aload_n hx hb dX10_nameAfter_61 rfl (lv_at hl 3 rfl) ?_
      refine rd_get (k := 3) (v := .int (gR σ 200 e 2)) hx hb hown hu hE ok4 (cd_ent hC (okE_lt hX)) (by decide) u662 (fun _ h => h) rfl dX10_nameAfter_62 ?_
      refine lv_iadd hx hb dX10_nameAfter_65 ?_
      exact cr_ri hx hb hr hlocks (by simp only [k_nameOf, c_nlaw, decide_eq_true c1, decide_eq_true c5, Bool.not_true, Bool.not_false, Bool.and_true, Bool.true_and, Bool.and_false, Bool.false_and, Bool.or_true, Bool.true_or, Bool.or_false, Bool.false_or, Bool.and_self, Bool.or_self, eq_self, if_true, Bool.false_eq_true, if_false]) dX10_nameAfter_66
set_option maxHeartbeats 1000000 in
set_option maxRecDepth 20000 in
theorem x_wr (l : Launch) (E : EV) (A : Nat → Prop) (σ : St) (L : Nat → Nat → Nat) (e f : Int32) : Cr l E yX3_written cX3_written 2 (some .int) 0 0 [.ref (L 24 e.toNatClampNeg), .int f] (fun H => Cd E A σ L H ∧ InvM σ ∧ okE σ e ∧ InvJ σ) (some (.int (c_wr σ e f))) := by
  refine Cr.of (by decide +kernel) (Nat.le_of_ble_eq_true rfl) (fun pg ev s mi bel mth cd hx hb hr hml hown hu hlocks hE hP ls hl => ?_)
  have hl : lv_has ls 2 [(0, .ref (L 24 e.toNatClampNeg)), (1, .int f)] := hl
  obtain ⟨hC, hI, hX, hJ⟩ := hP
  refine lv_iload_n hx hb dX3_written_0 rfl (lv_at hl 1 rfl) ?_
  by_cases c1 : f = 0
  · refine lv_tableIn (tgt := 48) (off := 47) hx hb dX3_written_1 (by rw [c1]; decide) (by rw [c1]; decide) (by rw [c1]; rfl) (by decide) ?_
    refine lv_aload_n hx hb dX3_written_48 rfl (lv_at hl 0 rfl) ?_
    refine rd_get (k := 1) (v := .int (gR σ 200 e 0)) hx hb hown hu hE ok4 (cd_ent hC (okE_lt hX)) (by decide) u657 (fun _ h => h) rfl dX3_written_49 ?_
    exact cr_ri hx hb hr hlocks (by simp only [c_wr, decide_eq_true c1, Bool.not_true, Bool.not_false, Bool.and_true, Bool.true_and, Bool.and_false, Bool.false_and, Bool.or_true, Bool.true_or, Bool.or_false, Bool.false_or, Bool.and_self, Bool.or_self, eq_self, if_true, Bool.false_eq_true, if_false]) dX3_written_52
  by_cases c2 : f = 1
  · refine lv_tableIn (tgt := 53) (off := 52) hx hb dX3_written_1 (by rw [c2]; decide) (by rw [c2]; decide) (by rw [c2]; rfl) (by decide) ?_
    refine lv_aload_n hx hb dX3_written_53 rfl (lv_at hl 0 rfl) ?_
    refine rd_get (k := 2) (v := .int (gR σ 200 e 1)) hx hb hown hu hE ok4 (cd_ent hC (okE_lt hX)) (by decide) u659 (fun _ h => h) rfl dX3_written_54 ?_
    exact cr_ri hx hb hr hlocks (by simp only [c_wr, decide_eq_false c1, decide_eq_true c2, Bool.not_true, Bool.not_false, Bool.and_true, Bool.true_and, Bool.and_false, Bool.false_and, Bool.or_true, Bool.true_or, Bool.or_false, Bool.false_or, Bool.and_self, Bool.or_self, eq_self, if_true, Bool.false_eq_true, if_false]) dX3_written_57
  by_cases c3 : f = 2
  · refine lv_tableIn (tgt := 58) (off := 57) hx hb dX3_written_1 (by rw [c3]; decide) (by rw [c3]; decide) (by rw [c3]; rfl) (by decide) ?_
    refine lv_aload_n hx hb dX3_written_58 rfl (lv_at hl 0 rfl) ?_
    refine rd_get (k := 3) (v := .int (gR σ 200 e 2)) hx hb hown hu hE ok4 (cd_ent hC (okE_lt hX)) (by decide) u661 (fun _ h => h) rfl dX3_written_59 ?_
    exact cr_ri hx hb hr hlocks (by simp only [c_wr, decide_eq_false c1, decide_eq_false c2, decide_eq_true c3, Bool.not_true, Bool.not_false, Bool.and_true, Bool.true_and, Bool.and_false, Bool.false_and, Bool.or_true, Bool.true_or, Bool.or_false, Bool.false_or, Bool.and_self, Bool.or_self, eq_self, if_true, Bool.false_eq_true, if_false]) dX3_written_62
  by_cases c4 : f = 3
  · refine lv_tableIn (tgt := 63) (off := 62) hx hb dX3_written_1 (by rw [c4]; decide) (by rw [c4]; decide) (by rw [c4]; rfl) (by decide) ?_
    refine lv_aload_n hx hb dX3_written_63 rfl (lv_at hl 0 rfl) ?_
    refine rd_get (k := 4) (v := .int (gR σ 200 e 3)) hx hb hown hu hE ok4 (cd_ent hC (okE_lt hX)) (by decide) u663 (fun _ h => h) rfl dX3_written_64 ?_
    exact cr_ri hx hb hr hlocks (by simp only [c_wr, decide_eq_false c1, decide_eq_false c2, decide_eq_false c3, decide_eq_true c4, Bool.not_true, Bool.not_false, Bool.and_true, Bool.true_and, Bool.and_false, Bool.false_and, Bool.or_true, Bool.true_or, Bool.or_false, Bool.false_or, Bool.and_self, Bool.or_self, eq_self, if_true, Bool.false_eq_true, if_false]) dX3_written_67
  by_cases c5 : f = 4
  · refine lv_tableIn (tgt := 68) (off := 67) hx hb dX3_written_1 (by rw [c5]; decide) (by rw [c5]; decide) (by rw [c5]; rfl) (by decide) ?_
    refine lv_aload_n hx hb dX3_written_68 rfl (lv_at hl 0 rfl) ?_
    refine rd_get (k := 5) (v := .int (gR σ 200 e 4)) hx hb hown hu hE ok4 (cd_ent hC (okE_lt hX)) (by decide) u664 (fun _ h => h) rfl dX3_written_69 ?_
    exact cr_ri hx hb hr hlocks (by simp only [c_wr, decide_eq_false c1, decide_eq_false c2, decide_eq_false c3, decide_eq_false c4, decide_eq_true c5, Bool.not_true, Bool.not_false, Bool.and_true, Bool.true_and, Bool.and_false, Bool.false_and, Bool.or_true, Bool.true_or, Bool.or_false, Bool.false_or, Bool.and_self, Bool.or_self, eq_self, if_true, Bool.false_eq_true, if_false]) dX3_written_72
  by_cases c6 : f = 5
  · refine lv_tableIn (tgt := 73) (off := 72) hx hb dX3_written_1 (by rw [c6]; decide) (by rw [c6]; decide) (by rw [c6]; rfl) (by decide) ?_
    refine lv_aload_n hx hb dX3_written_73 rfl (lv_at hl 0 rfl) ?_
    refine rd_get (k := 0) (v := .ref (L 22 (gR σ 200 e 7).toNatClampNeg)) hx hb hown hu hE ok4 (cd_ent hC (okE_lt hX)) (by decide) u655 (fun _ h => h) rfl dX3_written_74 ?_
    refine rd_get (k := 1) (v := .ref (L 21 (gA σ 17 (gR σ 200 e 7)).toNatClampNeg)) hx hb hown hu hE ok7 (cd_not hC (okN_lt (en_ok hJ hX))) (by decide) u450 (fun _ h => h) rfl dX3_written_77 ?_
    refine rd_get (k := 0) (v := .int (nI (gA σ 17 (gR σ 200 e 7)).toNatClampNeg)) hx hb hown hu hE ok10 (cd_per hC (okP_lt (one_ok hI (en_ok hJ hX)))) (by decide) u298 (fun _ h => h) rfl dX3_written_80 ?_
    exact cr_ri hx hb hr hlocks (by simp only [c_wr, decide_eq_false c1, decide_eq_false c2, decide_eq_false c3, decide_eq_false c4, decide_eq_false c5, decide_eq_true c6, Bool.not_true, Bool.not_false, Bool.and_true, Bool.true_and, Bool.and_false, Bool.false_and, Bool.or_true, Bool.true_or, Bool.or_false, Bool.false_or, Bool.and_self, Bool.or_self, eq_self, if_true, Bool.false_eq_true, if_false]) dX3_written_83
  by_cases c7 : f = 6
  · refine lv_tableIn (tgt := 84) (off := 83) hx hb dX3_written_1 (by rw [c7]; decide) (by rw [c7]; decide) (by rw [c7]; rfl) (by decide) ?_
    refine lv_aload_n hx hb dX3_written_84 rfl (lv_at hl 0 rfl) ?_
    refine rd_get (k := 0) (v := .ref (L 22 (gR σ 200 e 7).toNatClampNeg)) hx hb hown hu hE ok4 (cd_ent hC (okE_lt hX)) (by decide) u655 (fun _ h => h) rfl dX3_written_85 ?_
    refine rd_get (k := 2) (v := .ref (L 21 (gA σ 18 (gR σ 200 e 7)).toNatClampNeg)) hx hb hown hu hE ok7 (cd_not hC (okN_lt (en_ok hJ hX))) (by decide) u453 (fun _ h => h) rfl dX3_written_88 ?_
    refine rd_get (k := 0) (v := .int (nI (gA σ 18 (gR σ 200 e 7)).toNatClampNeg)) hx hb hown hu hE ok10 (cd_per hC (okP_lt (oth_ok hI (en_ok hJ hX)))) (by decide) u298 (fun _ h => h) rfl dX3_written_91 ?_
    exact cr_ri hx hb hr hlocks (by simp only [c_wr, decide_eq_false c1, decide_eq_false c2, decide_eq_false c3, decide_eq_false c4, decide_eq_false c5, decide_eq_false c6, decide_eq_true c7, Bool.not_true, Bool.not_false, Bool.and_true, Bool.true_and, Bool.and_false, Bool.false_and, Bool.or_true, Bool.true_or, Bool.or_false, Bool.false_or, Bool.and_self, Bool.or_self, eq_self, if_true, Bool.false_eq_true, if_false]) dX3_written_94
  by_cases c8 : f = 7
  · refine lv_tableIn (tgt := 95) (off := 94) hx hb dX3_written_1 (by rw [c8]; decide) (by rw [c8]; decide) (by rw [c8]; rfl) (by decide) ?_
    refine lv_aload_n hx hb dX3_written_95 rfl (lv_at hl 0 rfl) ?_
    refine rd_get (k := 0) (v := .ref (L 22 (gR σ 200 e 7).toNatClampNeg)) hx hb hown hu hE ok4 (cd_ent hC (okE_lt hX)) (by decide) u655 (fun _ h => h) rfl dX3_written_96 ?_
    refine rd_get (k := 0) (v := .int (nI (gR σ 200 e 7).toNatClampNeg)) hx hb hown hu hE ok7 (cd_not hC (okN_lt (en_ok hJ hX))) (by decide) u448 (fun _ h => h) rfl dX3_written_99 ?_
    exact cr_ri hx hb hr hlocks (by simp only [c_wr, decide_eq_false c1, decide_eq_false c2, decide_eq_false c3, decide_eq_false c4, decide_eq_false c5, decide_eq_false c6, decide_eq_false c7, decide_eq_true c8, Bool.not_true, Bool.not_false, Bool.and_true, Bool.true_and, Bool.and_false, Bool.false_and, Bool.or_true, Bool.true_or, Bool.or_false, Bool.false_or, Bool.and_self, Bool.or_self, eq_self, if_true, Bool.false_eq_true, if_false]) dX3_written_102
  have hsw : f.toInt < 0 ∨ 7 < f.toInt := by
    simp only [i_eq] at c1 c2 c3 c4 c5 c6 c7 c8
    have ec1 : (0 : Int32).toInt = 0 := rfl; have ec2 : (1 : Int32).toInt = 1 := rfl; have ec3 : (2 : Int32).toInt = 2 := rfl; have ec4 : (3 : Int32).toInt = 3 := rfl; have ec5 : (4 : Int32).toInt = 4 := rfl; have ec6 : (5 : Int32).toInt = 5 := rfl; have ec7 : (6 : Int32).toInt = 6 := rfl; have ec8 : (7 : Int32).toInt = 7 := rfl; omega
  refine lv_tableOut (tgt := 103) hx hb dX3_written_1 hsw (by decide) ?_
  refine lv_iconst (v := (-1)) hx hb dX3_written_103 (by decide) ?_
  exact cr_ri hx hb hr hlocks (by simp only [c_wr, decide_eq_false c1, decide_eq_false c2, decide_eq_false c3, decide_eq_false c4, decide_eq_false c5, decide_eq_false c6, decide_eq_false c7, decide_eq_false c8, Bool.not_true, Bool.not_false, Bool.and_true, Bool.true_and, Bool.and_false, Bool.false_and, Bool.or_true, Bool.true_or, Bool.or_false, Bool.false_or, Bool.and_self, Bool.or_self, eq_self, if_true, Bool.false_eq_true, if_false]) dX3_written_104
set_option maxHeartbeats 1000000 in
set_option maxRecDepth 20000 in
theorem x_told (l : Launch) (E : EV) (A : Nat → Prop) (σ : St) (L : Nat → Nat → Nat) (n w : Int32) : Cr l E yX10_told cX10_told 4 (some .int) 4 85 [.ref (L 0 0), .int n, .int w] (fun H => Cd E A σ L H ∧ InvM σ) (some (.int (k_told σ n w))) := by
  refine Cr.of (by decide +kernel) (Nat.le_of_ble_eq_true rfl) (fun pg ev s mi bel mth cd hx hb hr hml hown hu hlocks hE hP ls hl => ?_)
  have hl : lv_has ls 4 [(0, .ref (L 0 0)), (1, .int n), (2, .int w)] := hl
  obtain ⟨hC, hI⟩ := hP
  refine lv_aload_n hx hb dX10_told_0 rfl (lv_at hl 0 rfl) ?_
  refine lv_iload_n hx hb dX10_told_1 rfl (lv_at hl 1 rfl) ?_
  refine cr_V (As := [.int n]) (rest := []) hx hb hml hown hu hE (x_notAt l E A σ L n) kX10_noticeAt u487 (cd_reg hC) rfl rfl (⟨hC, hI⟩) ⟨Nat.le_of_ble_eq_true rfl, Nat.le_of_ble_eq_true rfl⟩ rfl hl.1 rfl (Nat.le_of_ble_eq_true rfl) ⟨Nat.le_of_ble_eq_true rfl, Nat.le_of_ble_eq_true rfl⟩ dX10_told_2 ?_
  refine onO (fun b1 => ?_) (fun b1 => ?_)
  · refine lv_astore_n (lv' := [(3, .ref (L 22 n.toNatClampNeg)), (0, .ref (L 0 0)), (1, .int n), (2, .int w)]) hx hb dX10_told_5 rfl hl (by decide) rfl (fun ls hl => ?_)
    refine lv_aload_n hx hb dX10_told_6 rfl (lv_at hl 0 rfl) ?_
    refine lv_ifnonnull (tgt := 12) hx hb dX10_told_7 (by decide) ?_
    refine lv_iload_n hx hb dX10_told_12 rfl (lv_at hl 3 rfl) ?_
    by_cases c2 : w = 0
    · refine lv_tableIn (tgt := 48) (off := 35) hx hb dX10_told_13 (by rw [c2]; decide) (by rw [c2]; decide) (by rw [c2]; rfl) (by decide) ?_
      refine lv_aload_n hx hb dX10_told_48 rfl (lv_at hl 0 rfl) ?_
      refine rd_get (k := 4) (v := .int (gA σ 20 n)) hx hb hown hu hE ok7 (cd_not hC (okN_lt (isN_ok hI b1))) (by decide) u458 (fun _ h => h) rfl dX10_told_49 ?_
      exact cr_ri hx hb hr hlocks (by simp only [k_told, b1, decide_eq_true c2, Bool.not_true, Bool.not_false, Bool.and_true, Bool.true_and, Bool.and_false, Bool.false_and, Bool.or_true, Bool.true_or, Bool.or_false, Bool.false_or, Bool.and_self, Bool.or_self, eq_self, if_true, Bool.false_eq_true, if_false]) dX10_told_52
    by_cases c3 : w = 1
    · refine lv_tableIn (tgt := 53) (off := 40) hx hb dX10_told_13 (by rw [c3]; decide) (by rw [c3]; decide) (by rw [c3]; rfl) (by decide) ?_
      refine lv_aload_n hx hb dX10_told_53 rfl (lv_at hl 0 rfl) ?_
      refine rd_get (k := 3) (v := .int (gA σ 19 n)) hx hb hown hu hE ok7 (cd_not hC (okN_lt (isN_ok hI b1))) (by decide) u456 (fun _ h => h) rfl dX10_told_54 ?_
      exact cr_ri hx hb hr hlocks (by simp only [k_told, b1, decide_eq_false c2, decide_eq_true c3, Bool.not_true, Bool.not_false, Bool.and_true, Bool.true_and, Bool.and_false, Bool.false_and, Bool.or_true, Bool.true_or, Bool.or_false, Bool.false_or, Bool.and_self, Bool.or_self, eq_self, if_true, Bool.false_eq_true, if_false]) dX10_told_57
    by_cases c4 : w = 2
    · refine lv_tableIn (tgt := 58) (off := 45) hx hb dX10_told_13 (by rw [c4]; decide) (by rw [c4]; decide) (by rw [c4]; rfl) (by decide) ?_
      refine lv_aload_n hx hb dX10_told_58 rfl (lv_at hl 0 rfl) ?_
      refine rd_get (k := 5) (v := .int (gA σ 93 n)) hx hb hown hu hE ok7 (cd_not hC (okN_lt (isN_ok hI b1))) (by decide) u460 (fun _ h => h) rfl dX10_told_59 ?_
      exact cr_ri hx hb hr hlocks (by simp only [k_told, b1, decide_eq_false c2, decide_eq_false c3, decide_eq_true c4, Bool.not_true, Bool.not_false, Bool.and_true, Bool.true_and, Bool.and_false, Bool.false_and, Bool.or_true, Bool.true_or, Bool.or_false, Bool.false_or, Bool.and_self, Bool.or_self, eq_self, if_true, Bool.false_eq_true, if_false]) dX10_told_62
    by_cases c5 : w = 3
    · refine lv_tableIn (tgt := 63) (off := 50) hx hb dX10_told_13 (by rw [c5]; decide) (by rw [c5]; decide) (by rw [c5]; rfl) (by decide) ?_
      refine lv_aload_n hx hb dX10_told_63 rfl (lv_at hl 0 rfl) ?_
      refine rd_get (k := 6) (v := .int (gA σ 21 n)) hx hb hown hu hE ok7 (cd_not hC (okN_lt (isN_ok hI b1))) (by decide) u462 (fun _ h => h) rfl dX10_told_64 ?_
      exact cr_ri hx hb hr hlocks (by simp only [k_told, b1, decide_eq_false c2, decide_eq_false c3, decide_eq_false c4, decide_eq_true c5, Bool.not_true, Bool.not_false, Bool.and_true, Bool.true_and, Bool.and_false, Bool.false_and, Bool.or_true, Bool.true_or, Bool.or_false, Bool.false_or, Bool.and_self, Bool.or_self, eq_self, if_true, Bool.false_eq_true, if_false]) dX10_told_67
    by_cases c6 : w = 4
    · refine lv_tableIn (tgt := 68) (off := 55) hx hb dX10_told_13 (by rw [c6]; decide) (by rw [c6]; decide) (by rw [c6]; rfl) (by decide) ?_
      refine lv_aload_n hx hb dX10_told_68 rfl (lv_at hl 0 rfl) ?_
      refine rd_get (k := 7) (v := .int (gA σ 22 n)) hx hb hown hu hE ok7 (cd_not hC (okN_lt (isN_ok hI b1))) (by decide) u465 (fun _ h => h) rfl dX10_told_69 ?_
      exact cr_ri hx hb hr hlocks (by simp only [k_told, b1, decide_eq_false c2, decide_eq_false c3, decide_eq_false c4, decide_eq_false c5, decide_eq_true c6, Bool.not_true, Bool.not_false, Bool.and_true, Bool.true_and, Bool.and_false, Bool.false_and, Bool.or_true, Bool.true_or, Bool.or_false, Bool.false_or, Bool.and_self, Bool.or_self, eq_self, if_true, Bool.false_eq_true, if_false]) dX10_told_72
    have hsw : w.toInt < 0 ∨ 4 < w.toInt := by
      simp only [i_eq] at c2 c3 c4 c5 c6
      have ec2 : (0 : Int32).toInt = 0 := rfl; have ec3 : (1 : Int32).toInt = 1 := rfl; have ec4 : (2 : Int32).toInt = 2 := rfl; have ec5 : (3 : Int32).toInt = 3 := rfl; have ec6 : (4 : Int32).toInt = 4 := rfl; omega
    refine lv_tableOut (tgt := 73) hx hb dX10_told_13 hsw (by decide) ?_
    refine lv_iconst (v := (-1)) hx hb dX10_told_73 (by decide) ?_
    exact cr_ri hx hb hr hlocks (by simp only [k_told, b1, decide_eq_false c2, decide_eq_false c3, decide_eq_false c4, decide_eq_false c5, decide_eq_false c6, Bool.not_true, Bool.not_false, Bool.and_true, Bool.true_and, Bool.and_false, Bool.false_and, Bool.or_true, Bool.true_or, Bool.or_false, Bool.false_or, Bool.and_self, Bool.or_self, eq_self, if_true, Bool.false_eq_true, if_false]) dX10_told_74
  · refine lv_astore_nN (lv' := [(3, .null), (0, .ref (L 0 0)), (1, .int n), (2, .int w)]) hx hb dX10_told_5 rfl hl (by decide) rfl (fun ls hl => ?_)
    refine lv_aload_nN hx hb dX10_told_6 rfl (lv_at hl 0 rfl) ?_
    refine lv_ifnonnullN hx hb dX10_told_7 ?_
    refine lv_iconst (v := (-1)) hx hb dX10_told_10 (by decide) ?_
    exact cr_ri hx hb hr hlocks (by simp only [k_told, b1, Bool.not_true, Bool.not_false, Bool.and_true, Bool.true_and, Bool.and_false, Bool.false_and, Bool.or_true, Bool.true_or, Bool.or_false, Bool.false_or, Bool.and_self, Bool.or_self, eq_self, if_true, Bool.false_eq_true, if_false]) dX10_told_11
set_option maxHeartbeats 1000000 in
set_option maxRecDepth 20000 in
theorem x_married (l : Launch) (E : EV) (A : Nat → Prop) (σ : St) (L : Nat → Nat → Nat) (p : Int32) : Cr l E yX10_married cX10_married 4 (some .int) 4 85 [.ref (L 0 0), .int p] (fun H => Cd E A σ L H ∧ InvM σ) (some (.int (k_married σ p))) := by
  refine Cr.of (by decide +kernel) (Nat.le_of_ble_eq_true rfl) (fun pg ev s mi bel mth cd hx hb hr hml hown hu hlocks hE hP ls hl => ?_)
  have hl : lv_has ls 4 [(0, .ref (L 0 0)), (1, .int p)] := hl
  obtain ⟨hC, hI⟩ := hP
  refine lv_aload_n hx hb dX10_married_0 rfl (lv_at hl 0 rfl) ?_
  refine lv_iload_n hx hb dX10_married_1 rfl (lv_at hl 1 rfl) ?_
  refine cr_V (As := [.int p]) (rest := []) hx hb hml hown hu hE (x_perAt l E A σ L p) kX10_personAt u271 (cd_reg hC) rfl rfl (⟨hC, hI⟩) ⟨Nat.le_of_ble_eq_true rfl, Nat.le_of_ble_eq_true rfl⟩ rfl hl.1 rfl (Nat.le_of_ble_eq_true rfl) ⟨Nat.le_of_ble_eq_true rfl, Nat.le_of_ble_eq_true rfl⟩ dX10_married_2 ?_
  refine onO (fun b1 => ?_) (fun b1 => ?_)
  · refine lv_astore_n (lv' := [(2, .ref (L 21 p.toNatClampNeg)), (0, .ref (L 0 0)), (1, .int p)]) hx hb dX10_married_5 rfl hl (by decide) rfl (fun ls hl => ?_)
    refine lv_aload_n hx hb dX10_married_6 rfl (lv_at hl 0 rfl) ?_
    refine lv_ifnonnull (tgt := 12) hx hb dX10_married_7 (by decide) ?_
    refine lv_aload_n hx hb dX10_married_12 rfl (lv_at hl 0 rfl) ?_
    refine rd_get (k := 8) (v := va_rf (rfo L (gA σ 10 p))) hx hb hown hu hE ok10 (cd_per hC (okP_lt (isP_ok hI b1))) (by decide) u315 (fun _ h => h) rfl dX10_married_13 ?_
    refine onQ (fun q2 => ?_) (fun q2 => ?_)
    · refine lv_astore_nN (lv' := [(3, .null), (2, .ref (L 21 p.toNatClampNeg)), (0, .ref (L 0 0)), (1, .int p)]) hx hb dX10_married_16 rfl hl (by decide) rfl (fun ls hl => ?_)
      refine lv_aload_nN hx hb dX10_married_17 rfl (lv_at hl 0 rfl) ?_
      refine lv_ifnonnullN hx hb dX10_married_18 ?_
      refine lv_iconst (v := (-1)) hx hb dX10_married_21 (by decide) ?_
      refine lv_goto (tgt := 29) hx hb dX10_married_22 (by decide) ?_
      exact cr_ri hx hb hr hlocks (by simp only [k_married, b1, decide_eq_true q2, Bool.not_true, Bool.not_false, Bool.and_true, Bool.true_and, Bool.and_false, Bool.false_and, Bool.or_true, Bool.true_or, Bool.or_false, Bool.false_or, Bool.and_self, Bool.or_self, eq_self, if_true, Bool.false_eq_true, if_false]) dX10_married_29
    · refine lv_astore_n (lv' := [(3, .ref (L 21 (gA σ 10 p).toNatClampNeg)), (2, .ref (L 21 p.toNatClampNeg)), (0, .ref (L 0 0)), (1, .int p)]) hx hb dX10_married_16 rfl hl (by decide) rfl (fun ls hl => ?_)
      refine lv_aload_n hx hb dX10_married_17 rfl (lv_at hl 0 rfl) ?_
      refine lv_ifnonnull (tgt := 25) hx hb dX10_married_18 (by decide) ?_
      refine lv_aload_n hx hb dX10_married_25 rfl (lv_at hl 0 rfl) ?_
      refine rd_get (k := 0) (v := .int (nI (gA σ 10 p).toNatClampNeg)) hx hb hown hu hE ok10 (cd_per hC (okP_lt (okPN_of (sp_ok hI (isP_ok hI b1)) q2))) (by decide) u299 (fun _ h => h) rfl dX10_married_26 ?_
      exact cr_ri hx hb hr hlocks (by simp only [k_married, b1, decide_eq_false q2, Bool.not_true, Bool.not_false, Bool.and_true, Bool.true_and, Bool.and_false, Bool.false_and, Bool.or_true, Bool.true_or, Bool.or_false, Bool.false_or, Bool.and_self, Bool.or_self, eq_self, if_true, Bool.false_eq_true, if_false]) dX10_married_29
  · refine lv_astore_nN (lv' := [(2, .null), (0, .ref (L 0 0)), (1, .int p)]) hx hb dX10_married_5 rfl hl (by decide) rfl (fun ls hl => ?_)
    refine lv_aload_nN hx hb dX10_married_6 rfl (lv_at hl 0 rfl) ?_
    refine lv_ifnonnullN hx hb dX10_married_7 ?_
    refine lv_iconst (v := (-1)) hx hb dX10_married_10 (by decide) ?_
    exact cr_ri hx hb hr hlocks (by simp only [k_married, b1, Bool.not_true, Bool.not_false, Bool.and_true, Bool.true_and, Bool.and_false, Bool.false_and, Bool.or_true, Bool.true_or, Bool.or_false, Bool.false_or, Bool.and_self, Bool.or_self, eq_self, if_true, Bool.false_eq_true, if_false]) dX10_married_11
set_option maxHeartbeats 1000000 in
set_option maxRecDepth 20000 in
theorem x_count (l : Launch) (E : EV) (A : Nat → Prop) (σ : St) (L : Nat → Nat → Nat) (w : Int32) : Cr l E yX10_count cX10_count 2 (some .int) 4 87 [.ref (L 0 0), .int w] (fun H => Cd E A σ L H ∧ InvM σ) (some (.int (m_count σ w))) := by
  refine Cr.of (by decide +kernel) (Nat.le_of_ble_eq_true rfl) (fun pg ev s mi bel mth cd hx hb hr hml hown hu hlocks hE hP ls hl => ?_)
  have hl : lv_has ls 2 [(0, .ref (L 0 0)), (1, .int w)] := hl
  obtain ⟨hC, hI⟩ := hP
  refine lv_iload_n hx hb dX10_count_0 rfl (lv_at hl 1 rfl) ?_
  by_cases c1 : w = 0
  · refine lv_tableIn (tgt := 40) (off := 39) hx hb dX10_count_1 (by rw [c1]; decide) (by rw [c1]; decide) (by rw [c1]; rfl) (by decide) ?_
    refine lv_aload_n hx hb dX10_count_40 rfl (lv_at hl 0 rfl) ?_
    refine rd_get (k := 0) (v := .int (σ 0 0)) hx hb hown hu hE ok11 (cd_reg hC) (by decide) u137 (fun _ h => h) rfl dX10_count_41 ?_
    exact cr_ri hx hb hr hlocks (by simp only [m_count, decide_eq_true c1, Bool.not_true, Bool.not_false, Bool.and_true, Bool.true_and, Bool.and_false, Bool.false_and, Bool.or_true, Bool.true_or, Bool.or_false, Bool.false_or, Bool.and_self, Bool.or_self, eq_self, if_true, Bool.false_eq_true, if_false]) dX10_count_44
  by_cases c2 : w = 1
  · refine lv_tableIn (tgt := 45) (off := 44) hx hb dX10_count_1 (by rw [c2]; decide) (by rw [c2]; decide) (by rw [c2]; rfl) (by decide) ?_
    refine lv_aload_n hx hb dX10_count_45 rfl (lv_at hl 0 rfl) ?_
    refine rd_get (k := 6) (v := .ref (L 9 1)) hx hb hown hu hE ok11 (cd_reg hC) (by decide) u143 (fun _ h => h) rfl dX10_count_46 ?_
    refine cr_V (As := []) (rest := []) hx hb hml hown hu hE (c_LS1 l E A σ L) kJx4a65c_size_8abf5 u266 ((cd_lex hC (j := 1) (by omega)).choose_spec) rfl rfl (⟨hC, hI⟩) ⟨Nat.le_of_ble_eq_true rfl, Nat.le_of_ble_eq_true rfl⟩ rfl hl.1 rfl (Nat.le_of_ble_eq_true rfl) ⟨Nat.le_of_ble_eq_true rfl, Nat.le_of_ble_eq_true rfl⟩ dX10_count_49 ?_
    exact cr_ri hx hb hr hlocks (by simp only [m_count, decide_eq_false c1, decide_eq_true c2, Bool.not_true, Bool.not_false, Bool.and_true, Bool.true_and, Bool.and_false, Bool.false_and, Bool.or_true, Bool.true_or, Bool.or_false, Bool.false_or, Bool.and_self, Bool.or_self, eq_self, if_true, Bool.false_eq_true, if_false]) dX10_count_52
  by_cases c3 : w = 2
  · refine lv_tableIn (tgt := 53) (off := 52) hx hb dX10_count_1 (by rw [c3]; decide) (by rw [c3]; decide) (by rw [c3]; rfl) (by decide) ?_
    refine lv_aload_n hx hb dX10_count_53 rfl (lv_at hl 0 rfl) ?_
    refine rd_get (k := 7) (v := .ref (L 9 2)) hx hb hown hu hE ok11 (cd_reg hC) (by decide) u144 (fun _ h => h) rfl dX10_count_54 ?_
    refine cr_V (As := []) (rest := []) hx hb hml hown hu hE (c_LS2 l E A σ L) kJx4a65c_size_8abf5 u266 ((cd_lex hC (j := 2) (by omega)).choose_spec) rfl rfl (⟨hC, hI⟩) ⟨Nat.le_of_ble_eq_true rfl, Nat.le_of_ble_eq_true rfl⟩ rfl hl.1 rfl (Nat.le_of_ble_eq_true rfl) ⟨Nat.le_of_ble_eq_true rfl, Nat.le_of_ble_eq_true rfl⟩ dX10_count_57 ?_
    exact cr_ri hx hb hr hlocks (by simp only [m_count, decide_eq_false c1, decide_eq_false c2, decide_eq_true c3, Bool.not_true, Bool.not_false, Bool.and_true, Bool.true_and, Bool.and_false, Bool.false_and, Bool.or_true, Bool.true_or, Bool.or_false, Bool.false_or, Bool.and_self, Bool.or_self, eq_self, if_true, Bool.false_eq_true, if_false]) dX10_count_60
  by_cases c4 : w = 3
  · refine lv_tableIn (tgt := 61) (off := 60) hx hb dX10_count_1 (by rw [c4]; decide) (by rw [c4]; decide) (by rw [c4]; rfl) (by decide) ?_
    refine lv_aload_n hx hb dX10_count_61 rfl (lv_at hl 0 rfl) ?_
    refine rd_get (k := 9) (v := .ref (L 9 4)) hx hb hown hu hE ok11 (cd_reg hC) (by decide) u146 (fun _ h => h) rfl dX10_count_62 ?_
    refine cr_V (As := []) (rest := []) hx hb hml hown hu hE (c_LS4 l E A σ L) kJx4a65c_size_8abf5 u266 ((cd_lex hC (j := 4) (by omega)).choose_spec) rfl rfl (⟨hC, hI⟩) ⟨Nat.le_of_ble_eq_true rfl, Nat.le_of_ble_eq_true rfl⟩ rfl hl.1 rfl (Nat.le_of_ble_eq_true rfl) ⟨Nat.le_of_ble_eq_true rfl, Nat.le_of_ble_eq_true rfl⟩ dX10_count_65 ?_
    exact cr_ri hx hb hr hlocks (by simp only [m_count, decide_eq_false c1, decide_eq_false c2, decide_eq_false c3, decide_eq_true c4, Bool.not_true, Bool.not_false, Bool.and_true, Bool.true_and, Bool.and_false, Bool.false_and, Bool.or_true, Bool.true_or, Bool.or_false, Bool.false_or, Bool.and_self, Bool.or_self, eq_self, if_true, Bool.false_eq_true, if_false]) dX10_count_68
  by_cases c5 : w = 4
  · refine lv_tableIn (tgt := 69) (off := 68) hx hb dX10_count_1 (by rw [c5]; decide) (by rw [c5]; decide) (by rw [c5]; rfl) (by decide) ?_
    refine lv_aload_n hx hb dX10_count_69 rfl (lv_at hl 0 rfl) ?_
    refine rd_get (k := 8) (v := .ref (L 9 3)) hx hb hown hu hE ok11 (cd_reg hC) (by decide) u145 (fun _ h => h) rfl dX10_count_70 ?_
    refine cr_V (As := []) (rest := []) hx hb hml hown hu hE (c_LS3 l E A σ L) kJx4a65c_size_8abf5 u266 ((cd_lex hC (j := 3) (by omega)).choose_spec) rfl rfl (⟨hC, hI⟩) ⟨Nat.le_of_ble_eq_true rfl, Nat.le_of_ble_eq_true rfl⟩ rfl hl.1 rfl (Nat.le_of_ble_eq_true rfl) ⟨Nat.le_of_ble_eq_true rfl, Nat.le_of_ble_eq_true rfl⟩ dX10_count_73 ?_
    exact cr_ri hx hb hr hlocks (by simp only [m_count, decide_eq_false c1, decide_eq_false c2, decide_eq_false c3, decide_eq_false c4, decide_eq_true c5, Bool.not_true, Bool.not_false, Bool.and_true, Bool.true_and, Bool.and_false, Bool.false_and, Bool.or_true, Bool.true_or, Bool.or_false, Bool.false_or, Bool.and_self, Bool.or_self, eq_self, if_true, Bool.false_eq_true, if_false]) dX10_count_76
  by_cases c6 : w = 5
  · refine lv_tableIn (tgt := 77) (off := 76) hx hb dX10_count_1 (by rw [c6]; decide) (by rw [c6]; decide) (by rw [c6]; rfl) (by decide) ?_
    refine lv_aload_n hx hb dX10_count_77 rfl (lv_at hl 0 rfl) ?_
    refine cr_V (As := []) (rest := []) hx hb hml hown hu hE (x_openB l E A σ L) kX10_openBookings u745 (cd_reg hC) rfl rfl (⟨hC, hI⟩) ⟨Nat.le_of_ble_eq_true rfl, Nat.le_of_ble_eq_true rfl⟩ rfl hl.1 rfl (Nat.le_of_ble_eq_true rfl) ⟨Nat.le_of_ble_eq_true rfl, Nat.le_of_ble_eq_true rfl⟩ dX10_count_78 ?_
    exact cr_ri hx hb hr hlocks (by simp only [m_count, decide_eq_false c1, decide_eq_false c2, decide_eq_false c3, decide_eq_false c4, decide_eq_false c5, decide_eq_true c6, Bool.not_true, Bool.not_false, Bool.and_true, Bool.true_and, Bool.and_false, Bool.false_and, Bool.or_true, Bool.true_or, Bool.or_false, Bool.false_or, Bool.and_self, Bool.or_self, eq_self, if_true, Bool.false_eq_true, if_false]) dX10_count_81
  have hsw : w.toInt < 0 ∨ 5 < w.toInt := by
    simp only [i_eq] at c1 c2 c3 c4 c5 c6
    have ec1 : (0 : Int32).toInt = 0 := rfl; have ec2 : (1 : Int32).toInt = 1 := rfl; have ec3 : (2 : Int32).toInt = 2 := rfl; have ec4 : (3 : Int32).toInt = 3 := rfl; have ec5 : (4 : Int32).toInt = 4 := rfl; have ec6 : (5 : Int32).toInt = 5 := rfl; omega
  refine lv_tableOut (tgt := 82) hx hb dX10_count_1 hsw (by decide) ?_
  refine lv_iconst (v := (-1)) hx hb dX10_count_82 (by decide) ?_
  exact cr_ri hx hb hr hlocks (by simp only [m_count, decide_eq_false c1, decide_eq_false c2, decide_eq_false c3, decide_eq_false c4, decide_eq_false c5, decide_eq_false c6, Bool.not_true, Bool.not_false, Bool.and_true, Bool.true_and, Bool.and_false, Bool.false_and, Bool.or_true, Bool.true_or, Bool.or_false, Bool.false_or, Bool.and_self, Bool.or_self, eq_self, if_true, Bool.false_eq_true, if_false]) dX10_count_83
set_option maxHeartbeats 1000000 in
set_option maxRecDepth 20000 in
theorem x_kin (l : Launch) (E : EV) (A : Nat → Prop) (σ : St) (L : Nat → Nat → Nat) (a b : Int32) : Cr l E yX10_kin cX10_kin 5 (some .int) 4 85 [.ref (L 0 0), .int a, .int b] (fun H => Cd E A σ L H ∧ InvM σ) (some (.int (k_kin σ a b))) := by
  refine Cr.of (by decide +kernel) (Nat.le_of_ble_eq_true rfl) (fun pg ev s mi bel mth cd hx hb hr hml hown hu hlocks hE hP ls hl => ?_)
  have hl : lv_has ls 5 [(0, .ref (L 0 0)), (1, .int a), (2, .int b)] := hl
  obtain ⟨hC, hI⟩ := hP
  refine lv_aload_n hx hb dX10_kin_0 rfl (lv_at hl 0 rfl) ?_
  refine lv_iload_n hx hb dX10_kin_1 rfl (lv_at hl 1 rfl) ?_
  refine cr_V (As := [.int a]) (rest := []) hx hb hml hown hu hE (x_perAt l E A σ L a) kX10_personAt u271 (cd_reg hC) rfl rfl (⟨hC, hI⟩) ⟨Nat.le_of_ble_eq_true rfl, Nat.le_of_ble_eq_true rfl⟩ rfl hl.1 rfl (Nat.le_of_ble_eq_true rfl) ⟨Nat.le_of_ble_eq_true rfl, Nat.le_of_ble_eq_true rfl⟩ dX10_kin_2 ?_
  refine onO (fun b1 => ?_) (fun b1 => ?_)
  · refine lv_astore_n (lv' := [(3, .ref (L 21 a.toNatClampNeg)), (0, .ref (L 0 0)), (1, .int a), (2, .int b)]) hx hb dX10_kin_5 rfl hl (by decide) rfl (fun ls hl => ?_)
    refine lv_aload_n hx hb dX10_kin_6 rfl (lv_at hl 1 rfl) ?_
    refine lv_iload_n hx hb dX10_kin_7 rfl (lv_at hl 3 rfl) ?_
    refine cr_V (As := [.int b]) (rest := []) hx hb hml hown hu hE (x_perAt l E A σ L b) kX10_personAt u271 (cd_reg hC) rfl rfl (⟨hC, hI⟩) ⟨Nat.le_of_ble_eq_true rfl, Nat.le_of_ble_eq_true rfl⟩ rfl hl.1 rfl (Nat.le_of_ble_eq_true rfl) ⟨Nat.le_of_ble_eq_true rfl, Nat.le_of_ble_eq_true rfl⟩ dX10_kin_8 ?_
    refine onO (fun b2 => ?_) (fun b2 => ?_)
    · refine lv_astore (lv' := [(4, .ref (L 21 b.toNatClampNeg)), (3, .ref (L 21 a.toNatClampNeg)), (0, .ref (L 0 0)), (1, .int a), (2, .int b)]) hx hb dX10_kin_11 hl (by decide) rfl (fun ls hl => ?_)
      refine lv_aload_n hx hb dX10_kin_13 rfl (lv_at hl 1 rfl) ?_
      refine lv_ifnull hx hb dX10_kin_14 ?_
      refine lv_aload hx hb dX10_kin_17 (lv_at hl 0 rfl) ?_
      refine lv_ifnull hx hb dX10_kin_19 ?_
      refine lv_iload_n hx hb dX10_kin_22 rfl (lv_at hl 3 rfl) ?_
      refine lv_iload_n hx hb dX10_kin_23 rfl (lv_at hl 4 rfl) ?_
      refine lv_icmp_ne (tgt := 29) hx hb dX10_kin_24 (by decide) (fun c3 => ?_) (fun c3 => ?_)
      · refine lv_aload_n hx hb dX10_kin_29 rfl (lv_at hl 1 rfl) ?_
        refine lv_aload hx hb dX10_kin_30 (lv_at hl 0 rfl) ?_
        refine cr_S (As := [.ref (L 21 a.toNatClampNeg), .ref (L 21 b.toNatClampNeg)]) (rest := []) hx hb hml hown hu hE (x_kinOf l E A σ L a b) kX10_kinOf u376 (⟨hC, hI, (isP_ok hI b1), (isP_ok hI b2)⟩) ⟨Nat.le_of_ble_eq_true rfl, Nat.le_of_ble_eq_true rfl⟩ rfl hl.1 rfl (Nat.le_of_ble_eq_true rfl) ⟨Nat.le_of_ble_eq_true rfl, Nat.le_of_ble_eq_true rfl⟩ dX10_kin_32 ?_
        exact cr_ri hx hb hr hlocks (by simp only [k_kin, b1, b2, decide_eq_false c3, Bool.not_true, Bool.not_false, Bool.and_true, Bool.true_and, Bool.and_false, Bool.false_and, Bool.or_true, Bool.true_or, Bool.or_false, Bool.false_or, Bool.and_self, Bool.or_self, eq_self, if_true, Bool.false_eq_true, if_false]) dX10_kin_35
      · refine lv_iconst (v := (-1)) hx hb dX10_kin_27 (by decide) ?_
        exact cr_ri hx hb hr hlocks (by simp only [k_kin, b1, b2, decide_eq_true c3, Bool.not_true, Bool.not_false, Bool.and_true, Bool.true_and, Bool.and_false, Bool.false_and, Bool.or_true, Bool.true_or, Bool.or_false, Bool.false_or, Bool.and_self, Bool.or_self, eq_self, if_true, Bool.false_eq_true, if_false]) dX10_kin_28
    · refine lv_astoreN (lv' := [(4, .null), (3, .ref (L 21 a.toNatClampNeg)), (0, .ref (L 0 0)), (1, .int a), (2, .int b)]) hx hb dX10_kin_11 hl (by decide) rfl (fun ls hl => ?_)
      refine lv_aload_n hx hb dX10_kin_13 rfl (lv_at hl 1 rfl) ?_
      refine lv_ifnull hx hb dX10_kin_14 ?_
      refine lv_aloadN hx hb dX10_kin_17 (lv_at hl 0 rfl) ?_
      refine lv_ifnullN (tgt := 27) hx hb dX10_kin_19 (by decide) ?_
      refine lv_iconst (v := (-1)) hx hb dX10_kin_27 (by decide) ?_
      exact cr_ri hx hb hr hlocks (by simp only [k_kin, b1, b2, Bool.not_true, Bool.not_false, Bool.and_true, Bool.true_and, Bool.and_false, Bool.false_and, Bool.or_true, Bool.true_or, Bool.or_false, Bool.false_or, Bool.and_self, Bool.or_self, eq_self, if_true, Bool.false_eq_true, if_false]) dX10_kin_28
  · refine lv_astore_nN (lv' := [(3, .null), (0, .ref (L 0 0)), (1, .int a), (2, .int b)]) hx hb dX10_kin_5 rfl hl (by decide) rfl (fun ls hl => ?_)
    refine lv_aload_n hx hb dX10_kin_6 rfl (lv_at hl 1 rfl) ?_
    refine lv_iload_n hx hb dX10_kin_7 rfl (lv_at hl 3 rfl) ?_
    refine cr_V (As := [.int b]) (rest := []) hx hb hml hown hu hE (x_perAt l E A σ L b) kX10_personAt u271 (cd_reg hC) rfl rfl (⟨hC, hI⟩) ⟨Nat.le_of_ble_eq_true rfl, Nat.le_of_ble_eq_true rfl⟩ rfl hl.1 rfl (Nat.le_of_ble_eq_true rfl) ⟨Nat.le_of_ble_eq_true rfl, Nat.le_of_ble_eq_true rfl⟩ dX10_kin_8 ?_
    refine onO (fun b4 => ?_) (fun b4 => ?_)
    · refine lv_astore (lv' := [(4, .ref (L 21 b.toNatClampNeg)), (3, .null), (0, .ref (L 0 0)), (1, .int a), (2, .int b)]) hx hb dX10_kin_11 hl (by decide) rfl (fun ls hl => ?_)
      refine lv_aload_nN hx hb dX10_kin_13 rfl (lv_at hl 1 rfl) ?_
      refine lv_ifnullN (tgt := 27) hx hb dX10_kin_14 (by decide) ?_
      refine lv_iconst (v := (-1)) hx hb dX10_kin_27 (by decide) ?_
      exact cr_ri hx hb hr hlocks (by simp only [k_kin, b1, b4, Bool.not_true, Bool.not_false, Bool.and_true, Bool.true_and, Bool.and_false, Bool.false_and, Bool.or_true, Bool.true_or, Bool.or_false, Bool.false_or, Bool.and_self, Bool.or_self, eq_self, if_true, Bool.false_eq_true, if_false]) dX10_kin_28
    · refine lv_astoreN (lv' := [(4, .null), (3, .null), (0, .ref (L 0 0)), (1, .int a), (2, .int b)]) hx hb dX10_kin_11 hl (by decide) rfl (fun ls hl => ?_)
      refine lv_aload_nN hx hb dX10_kin_13 rfl (lv_at hl 1 rfl) ?_
      refine lv_ifnullN (tgt := 27) hx hb dX10_kin_14 (by decide) ?_
      refine lv_iconst (v := (-1)) hx hb dX10_kin_27 (by decide) ?_
      exact cr_ri hx hb hr hlocks (by simp only [k_kin, b1, b4, Bool.not_true, Bool.not_false, Bool.and_true, Bool.true_and, Bool.and_false, Bool.false_and, Bool.or_true, Bool.true_or, Bool.or_false, Bool.false_or, Bool.and_self, Bool.or_self, eq_self, if_true, Bool.false_eq_true, if_false]) dX10_kin_28
set_option maxHeartbeats 1000000 in
set_option maxRecDepth 20000 in
theorem x_against (l : Launch) (E : EV) (A : Nat → Prop) (σ : St) (L : Nat → Nat → Nat) (a b d : Int32) : Cr l E yX10_against cX10_against 6 (some .int) 6 138 [.ref (L 0 0), .int a, .int b, .int d] (fun H => Cd E A σ L H ∧ InvM σ ∧ InvL σ ∧ InvP σ) (some (.int (k_against σ a b d))) := by
  refine Cr.of (by decide +kernel) (Nat.le_of_ble_eq_true rfl) (fun pg ev s mi bel mth cd hx hb hr hml hown hu hlocks hE hP ls hl => ?_)
  have hl : lv_has ls 6 [(0, .ref (L 0 0)), (1, .int a), (2, .int b), (3, .int d)] := hl
  obtain ⟨hC, hI, hL, hK⟩ := hP
  refine lv_aload_n hx hb dX10_against_0 rfl (lv_at hl 0 rfl) ?_
  refine lv_iload_n hx hb dX10_against_1 rfl (lv_at hl 1 rfl) ?_
  refine cr_V (As := [.int a]) (rest := []) hx hb hml hown hu hE (x_perAt l E A σ L a) kX10_personAt u271 (cd_reg hC) rfl rfl (⟨hC, hI⟩) ⟨Nat.le_of_ble_eq_true rfl, Nat.le_of_ble_eq_true rfl⟩ rfl hl.1 rfl (Nat.le_of_ble_eq_true rfl) ⟨Nat.le_of_ble_eq_true rfl, Nat.le_of_ble_eq_true rfl⟩ dX10_against_2 ?_
  refine onO (fun b1 => ?_) (fun b1 => ?_)
  · refine lv_astore (lv' := [(4, .ref (L 21 a.toNatClampNeg)), (0, .ref (L 0 0)), (1, .int a), (2, .int b), (3, .int d)]) hx hb dX10_against_5 hl (by decide) rfl (fun ls hl => ?_)
    refine lv_aload_n hx hb dX10_against_7 rfl (lv_at hl 1 rfl) ?_
    refine lv_iload_n hx hb dX10_against_8 rfl (lv_at hl 3 rfl) ?_
    refine cr_V (As := [.int b]) (rest := []) hx hb hml hown hu hE (x_perAt l E A σ L b) kX10_personAt u271 (cd_reg hC) rfl rfl (⟨hC, hI⟩) ⟨Nat.le_of_ble_eq_true rfl, Nat.le_of_ble_eq_true rfl⟩ rfl hl.1 rfl (Nat.le_of_ble_eq_true rfl) ⟨Nat.le_of_ble_eq_true rfl, Nat.le_of_ble_eq_true rfl⟩ dX10_against_9 ?_
    refine onO (fun b2 => ?_) (fun b2 => ?_)
    · refine lv_astore (lv' := [(5, .ref (L 21 b.toNatClampNeg)), (4, .ref (L 21 a.toNatClampNeg)), (0, .ref (L 0 0)), (1, .int a), (2, .int b), (3, .int d)]) hx hb dX10_against_12 hl (by decide) rfl (fun ls hl => ?_)
      refine lv_aload hx hb dX10_against_14 (lv_at hl 1 rfl) ?_
      refine lv_ifnull hx hb dX10_against_16 ?_
      refine lv_aload hx hb dX10_against_19 (lv_at hl 0 rfl) ?_
      refine lv_ifnull hx hb dX10_against_21 ?_
      refine lv_iload_n hx hb dX10_against_24 rfl (lv_at hl 3 rfl) ?_
      refine lv_iload_n hx hb dX10_against_25 rfl (lv_at hl 4 rfl) ?_
      refine lv_icmp_eq (tgt := 36) hx hb dX10_against_26 (by decide) (fun c3 => ?_) (fun c3 => ?_)
      · refine lv_iconst (v := (-1)) hx hb dX10_against_36 (by decide) ?_
        exact cr_ri hx hb hr hlocks (by simp only [k_against, b1, b2, decide_eq_true c3, Bool.not_true, Bool.not_false, Bool.and_true, Bool.true_and, Bool.and_false, Bool.false_and, Bool.or_true, Bool.true_or, Bool.or_false, Bool.false_or, Bool.and_self, Bool.or_self, eq_self, if_true, Bool.false_eq_true, if_false]) dX10_against_37
      · refine lv_iload_n hx hb dX10_against_29 rfl (lv_at hl 5 rfl) ?_
        refine cr_S (As := [.int d]) (rest := []) hx hb hml hown hu hE (x_isDay l E d) kX10_isDay u178 (trivial) ⟨Nat.le_of_ble_eq_true rfl, Nat.le_of_ble_eq_true rfl⟩ rfl hl.1 rfl (Nat.le_of_ble_eq_true rfl) ⟨Nat.le_of_ble_eq_true rfl, Nat.le_of_ble_eq_true rfl⟩ dX10_against_30 ?_
        refine onB (fun b4 => ?_) (fun b4 => ?_)
        · refine lv_if_ne (tgt := 38) hx hb dX10_against_33 (by decide) (fun _ => ?_) (fun c5 => absurd c5 (by decide))
          refine lv_aload_n hx hb dX10_against_38 rfl (lv_at hl 2 rfl) ?_
          refine lv_aload hx hb dX10_against_39 (lv_at hl 1 rfl) ?_
          refine lv_aload hx hb dX10_against_41 (lv_at hl 0 rfl) ?_
          refine lv_iload_n hx hb dX10_against_43 rfl (lv_at hl 5 rfl) ?_
          refine cr_V (As := [.ref (L 21 a.toNatClampNeg), .ref (L 21 b.toNatClampNeg), .int d]) (rest := []) hx hb hml hown hu hE (x_bar l E A σ L a b d) kX10_barToCouple u403 (cd_reg hC) rfl rfl (⟨hC, hI, (isP_ok hI b1), (isP_ok hI b2), hL, hK⟩) ⟨Nat.le_of_ble_eq_true rfl, Nat.le_of_ble_eq_true rfl⟩ rfl hl.1 rfl (Nat.le_of_ble_eq_true rfl) ⟨Nat.le_of_ble_eq_true rfl, Nat.le_of_ble_eq_true rfl⟩ dX10_against_44 ?_
          exact cr_ri hx hb hr hlocks (by simp only [k_against, b1, b2, decide_eq_false c3, b4, Bool.not_true, Bool.not_false, Bool.and_true, Bool.true_and, Bool.and_false, Bool.false_and, Bool.or_true, Bool.true_or, Bool.or_false, Bool.false_or, Bool.and_self, Bool.or_self, eq_self, if_true, Bool.false_eq_true, if_false]) dX10_against_47
        · refine lv_if_ne (tgt := 38) hx hb dX10_against_33 (by decide) (fun c6 => absurd c6 (by decide)) (fun _ => ?_)
          refine lv_iconst (v := (-1)) hx hb dX10_against_36 (by decide) ?_
          exact cr_ri hx hb hr hlocks (by simp only [k_against, b1, b2, decide_eq_false c3, b4, Bool.not_true, Bool.not_false, Bool.and_true, Bool.true_and, Bool.and_false, Bool.false_and, Bool.or_true, Bool.true_or, Bool.or_false, Bool.false_or, Bool.and_self, Bool.or_self, eq_self, if_true, Bool.false_eq_true, if_false]) dX10_against_37
    · refine lv_astoreN (lv' := [(5, .null), (4, .ref (L 21 a.toNatClampNeg)), (0, .ref (L 0 0)), (1, .int a), (2, .int b), (3, .int d)]) hx hb dX10_against_12 hl (by decide) rfl (fun ls hl => ?_)
      refine lv_aload hx hb dX10_against_14 (lv_at hl 1 rfl) ?_
      refine lv_ifnull hx hb dX10_against_16 ?_
      refine lv_aloadN hx hb dX10_against_19 (lv_at hl 0 rfl) ?_
      refine lv_ifnullN (tgt := 36) hx hb dX10_against_21 (by decide) ?_
      refine lv_iconst (v := (-1)) hx hb dX10_against_36 (by decide) ?_
      exact cr_ri hx hb hr hlocks (by simp only [k_against, b1, b2, Bool.not_true, Bool.not_false, Bool.and_true, Bool.true_and, Bool.and_false, Bool.false_and, Bool.or_true, Bool.true_or, Bool.or_false, Bool.false_or, Bool.and_self, Bool.or_self, eq_self, if_true, Bool.false_eq_true, if_false]) dX10_against_37
  · refine lv_astoreN (lv' := [(4, .null), (0, .ref (L 0 0)), (1, .int a), (2, .int b), (3, .int d)]) hx hb dX10_against_5 hl (by decide) rfl (fun ls hl => ?_)
    refine lv_aload_n hx hb dX10_against_7 rfl (lv_at hl 1 rfl) ?_
    refine lv_iload_n hx hb dX10_against_8 rfl (lv_at hl 3 rfl) ?_
    refine cr_V (As := [.int b]) (rest := []) hx hb hml hown hu hE (x_perAt l E A σ L b) kX10_personAt u271 (cd_reg hC) rfl rfl (⟨hC, hI⟩) ⟨Nat.le_of_ble_eq_true rfl, Nat.le_of_ble_eq_true rfl⟩ rfl hl.1 rfl (Nat.le_of_ble_eq_true rfl) ⟨Nat.le_of_ble_eq_true rfl, Nat.le_of_ble_eq_true rfl⟩ dX10_against_9 ?_
    refine onO (fun b7 => ?_) (fun b7 => ?_)
    · refine lv_astore (lv' := [(5, .ref (L 21 b.toNatClampNeg)), (4, .null), (0, .ref (L 0 0)), (1, .int a), (2, .int b), (3, .int d)]) hx hb dX10_against_12 hl (by decide) rfl (fun ls hl => ?_)
      refine lv_aloadN hx hb dX10_against_14 (lv_at hl 1 rfl) ?_
      refine lv_ifnullN (tgt := 36) hx hb dX10_against_16 (by decide) ?_
      refine lv_iconst (v := (-1)) hx hb dX10_against_36 (by decide) ?_
      exact cr_ri hx hb hr hlocks (by simp only [k_against, b1, b7, Bool.not_true, Bool.not_false, Bool.and_true, Bool.true_and, Bool.and_false, Bool.false_and, Bool.or_true, Bool.true_or, Bool.or_false, Bool.false_or, Bool.and_self, Bool.or_self, eq_self, if_true, Bool.false_eq_true, if_false]) dX10_against_37
    · refine lv_astoreN (lv' := [(5, .null), (4, .null), (0, .ref (L 0 0)), (1, .int a), (2, .int b), (3, .int d)]) hx hb dX10_against_12 hl (by decide) rfl (fun ls hl => ?_)
      refine lv_aloadN hx hb dX10_against_14 (lv_at hl 1 rfl) ?_
      refine lv_ifnullN (tgt := 36) hx hb dX10_against_16 (by decide) ?_
      refine lv_iconst (v := (-1)) hx hb dX10_against_36 (by decide) ?_
      exact cr_ri hx hb hr hlocks (by simp only [k_against, b1, b7, Bool.not_true, Bool.not_false, Bool.and_true, Bool.true_and, Bool.and_false, Bool.false_and, Bool.or_true, Bool.true_or, Bool.or_false, Bool.false_or, Bool.and_self, Bool.or_self, eq_self, if_true, Bool.false_eq_true, if_false]) dX10_against_37
set_option maxHeartbeats 1000000 in
set_option maxRecDepth 20000 in
theorem x_name (l : Launch) (E : EV) (A : Nat → Prop) (σ : St) (L : Nat → Nat → Nat) (e wh lw : Int32) : Cr l E yX10_name cX10_name 5 (some .int) 5 114 [.ref (L 0 0), .int e, .int wh, .int lw] (fun H => Cd E A σ L H ∧ InvM σ ∧ InvJ σ ∧ InvL σ) (some (.int (k_name σ e wh lw))) := by
  refine Cr.of (by decide +kernel) (Nat.le_of_ble_eq_true rfl) (fun pg ev s mi bel mth cd hx hb hr hml hown hu hlocks hE hP ls hl => ?_)
  have hl : lv_has ls 5 [(0, .ref (L 0 0)), (1, .int e), (2, .int wh), (3, .int lw)] := hl
  obtain ⟨hC, hI, hJ, hL⟩ := hP
  refine lv_aload_n hx hb dX10_name_0 rfl (lv_at hl 0 rfl) ?_
  refine lv_iload_n hx hb dX10_name_1 rfl (lv_at hl 1 rfl) ?_
  refine cr_V (As := [.int e]) (rest := []) hx hb hml hown hu hE (x_entAt l E A σ L e) kX10_entryAt u686 (cd_reg hC) rfl rfl (⟨hC, hI⟩) ⟨Nat.le_of_ble_eq_true rfl, Nat.le_of_ble_eq_true rfl⟩ rfl hl.1 rfl (Nat.le_of_ble_eq_true rfl) ⟨Nat.le_of_ble_eq_true rfl, Nat.le_of_ble_eq_true rfl⟩ dX10_name_2 ?_
  refine onO (fun b1 => ?_) (fun b1 => ?_)
  · refine lv_astore (lv' := [(4, .ref (L 24 e.toNatClampNeg)), (0, .ref (L 0 0)), (1, .int e), (2, .int wh), (3, .int lw)]) hx hb dX10_name_5 hl (by decide) rfl (fun ls hl => ?_)
    refine lv_aload hx hb dX10_name_7 (lv_at hl 0 rfl) ?_
    refine lv_ifnull hx hb dX10_name_9 ?_
    refine lv_iload_n hx hb dX10_name_12 rfl (lv_at hl 3 rfl) ?_
    refine lv_if_lt (tgt := 30) hx hb dX10_name_13 (by decide) (fun c2 => ?_) (fun c2 => ?_)
    · refine lv_iconst (v := (-1)) hx hb dX10_name_30 (by decide) ?_
      exact cr_ri hx hb hr hlocks (by simp only [k_name, b1, decide_eq_true c2, Bool.not_true, Bool.not_false, Bool.and_true, Bool.true_and, Bool.and_false, Bool.false_and, Bool.or_true, Bool.true_or, Bool.or_false, Bool.false_or, Bool.and_self, Bool.or_self, eq_self, if_true, Bool.false_eq_true, if_false]) dX10_name_31
    · refine lv_iload_n hx hb dX10_name_16 rfl (lv_at hl 3 rfl) ?_
      refine lv_iconst (v := 1) hx hb dX10_name_17 (by decide) ?_
      refine lv_icmp_gt (tgt := 30) hx hb dX10_name_18 (by decide) (fun c3 => ?_) (fun c3 => ?_)
      · refine lv_iconst (v := (-1)) hx hb dX10_name_30 (by decide) ?_
        exact cr_ri hx hb hr hlocks (by simp only [k_name, b1, decide_eq_false c2, decide_eq_true c3, Bool.not_true, Bool.not_false, Bool.and_true, Bool.true_and, Bool.and_false, Bool.false_and, Bool.or_true, Bool.true_or, Bool.or_false, Bool.false_or, Bool.and_self, Bool.or_self, eq_self, if_true, Bool.false_eq_true, if_false]) dX10_name_31
      · refine lv_iload_n hx hb dX10_name_21 rfl (lv_at hl 4 rfl) ?_
        refine lv_if_lt (tgt := 30) hx hb dX10_name_22 (by decide) (fun c4 => ?_) (fun c4 => ?_)
        · refine lv_iconst (v := (-1)) hx hb dX10_name_30 (by decide) ?_
          exact cr_ri hx hb hr hlocks (by simp only [k_name, b1, decide_eq_false c2, decide_eq_false c3, decide_eq_true c4, Bool.not_true, Bool.not_false, Bool.and_true, Bool.true_and, Bool.and_false, Bool.false_and, Bool.or_true, Bool.true_or, Bool.or_false, Bool.false_or, Bool.and_self, Bool.or_self, eq_self, if_true, Bool.false_eq_true, if_false]) dX10_name_31
        · refine lv_iload_n hx hb dX10_name_25 rfl (lv_at hl 4 rfl) ?_
          refine lv_iconst (v := 1) hx hb dX10_name_26 (by decide) ?_
          refine lv_icmp_le (tgt := 32) hx hb dX10_name_27 (by decide) (fun c5 => ?_) (fun c5 => ?_)
          · refine lv_aload_n hx hb dX10_name_32 rfl (lv_at hl 1 rfl) ?_
            refine lv_aload hx hb dX10_name_33 (lv_at hl 0 rfl) ?_
            refine lv_iload_n hx hb dX10_name_35 rfl (lv_at hl 3 rfl) ?_
            refine lv_iload_n hx hb dX10_name_36 rfl (lv_at hl 4 rfl) ?_
            refine cr_V (As := [.ref (L 24 e.toNatClampNeg), .int wh, .int lw]) (rest := []) hx hb hml hown hu hE (x_nameA l E A σ L e wh lw) kX10_nameAfter u725 (cd_reg hC) rfl rfl (⟨hC, hI, (okE_of hI b1), hJ, hL⟩) ⟨Nat.le_of_ble_eq_true rfl, Nat.le_of_ble_eq_true rfl⟩ rfl hl.1 rfl (Nat.le_of_ble_eq_true rfl) ⟨Nat.le_of_ble_eq_true rfl, Nat.le_of_ble_eq_true rfl⟩ dX10_name_37 ?_
            exact cr_ri hx hb hr hlocks (by simp only [k_name, b1, decide_eq_false c2, decide_eq_false c3, decide_eq_false c4, decide_eq_false (Int32.not_lt.mpr c5), Bool.not_true, Bool.not_false, Bool.and_true, Bool.true_and, Bool.and_false, Bool.false_and, Bool.or_true, Bool.true_or, Bool.or_false, Bool.false_or, Bool.and_self, Bool.or_self, eq_self, if_true, Bool.false_eq_true, if_false]) dX10_name_40
          · refine lv_iconst (v := (-1)) hx hb dX10_name_30 (by decide) ?_
            exact cr_ri hx hb hr hlocks (by simp only [k_name, b1, decide_eq_false c2, decide_eq_false c3, decide_eq_false c4, decide_eq_true (Int32.not_le.mp c5), Bool.not_true, Bool.not_false, Bool.and_true, Bool.true_and, Bool.and_false, Bool.false_and, Bool.or_true, Bool.true_or, Bool.or_false, Bool.false_or, Bool.and_self, Bool.or_self, eq_self, if_true, Bool.false_eq_true, if_false]) dX10_name_31
  · refine lv_astoreN (lv' := [(4, .null), (0, .ref (L 0 0)), (1, .int e), (2, .int wh), (3, .int lw)]) hx hb dX10_name_5 hl (by decide) rfl (fun ls hl => ?_)
    refine lv_aloadN hx hb dX10_name_7 (lv_at hl 0 rfl) ?_
    refine lv_ifnullN (tgt := 30) hx hb dX10_name_9 (by decide) ?_
    refine lv_iconst (v := (-1)) hx hb dX10_name_30 (by decide) ?_
    exact cr_ri hx hb hr hlocks (by simp only [k_name, b1, Bool.not_true, Bool.not_false, Bool.and_true, Bool.true_and, Bool.and_false, Bool.false_and, Bool.or_true, Bool.true_or, Bool.or_false, Bool.false_or, Bool.and_self, Bool.or_self, eq_self, if_true, Bool.false_eq_true, if_false]) dX10_name_31
set_option maxHeartbeats 1000000 in
set_option maxRecDepth 20000 in
theorem x_quarrel (l : Launch) (E : EV) (A : Nat → Prop) (σ : St) (L : Nat → Nat → Nat) (e : Int32) : Cr l E yX10_quarrel cX10_quarrel 3 (some .boolean) 5 114 [.ref (L 0 0), .int e] (fun H => Cd E A σ L H ∧ InvM σ ∧ InvJ σ ∧ InvL σ) (some (.int (bI (k_quarrel σ e)))) := by
  refine Cr.of (by decide +kernel) (Nat.le_of_ble_eq_true rfl) (fun pg ev s mi bel mth cd hx hb hr hml hown hu hlocks hE hP ls hl => ?_)
  have hl : lv_has ls 3 [(0, .ref (L 0 0)), (1, .int e)] := hl
  obtain ⟨hC, hI, hJ, hL⟩ := hP
  refine lv_aload_n hx hb dX10_quarrel_0 rfl (lv_at hl 0 rfl) ?_
  refine lv_iload_n hx hb dX10_quarrel_1 rfl (lv_at hl 1 rfl) ?_
  refine cr_V (As := [.int e]) (rest := []) hx hb hml hown hu hE (x_entAt l E A σ L e) kX10_entryAt u686 (cd_reg hC) rfl rfl (⟨hC, hI⟩) ⟨Nat.le_of_ble_eq_true rfl, Nat.le_of_ble_eq_true rfl⟩ rfl hl.1 rfl (Nat.le_of_ble_eq_true rfl) ⟨Nat.le_of_ble_eq_true rfl, Nat.le_of_ble_eq_true rfl⟩ dX10_quarrel_2 ?_
  refine onO (fun b1 => ?_) (fun b1 => ?_)
  · refine lv_astore_n (lv' := [(2, .ref (L 24 e.toNatClampNeg)), (0, .ref (L 0 0)), (1, .int e)]) hx hb dX10_quarrel_5 rfl hl (by decide) rfl (fun ls hl => ?_)
    refine lv_aload_n hx hb dX10_quarrel_6 rfl (lv_at hl 0 rfl) ?_
    refine lv_ifnonnull (tgt := 12) hx hb dX10_quarrel_7 (by decide) ?_
    refine lv_aload_n hx hb dX10_quarrel_12 rfl (lv_at hl 1 rfl) ?_
    refine lv_aload_n hx hb dX10_quarrel_13 rfl (lv_at hl 0 rfl) ?_
    refine lv_iconst (v := 0) hx hb dX10_quarrel_14 (by decide) ?_
    refine lv_iconst (v := 0) hx hb dX10_quarrel_15 (by decide) ?_
    refine cr_V (As := [.ref (L 24 e.toNatClampNeg), .int 0, .int 0]) (rest := []) hx hb hml hown hu hE (x_nameA l E A σ L e 0 0) kX10_nameAfter u725 (cd_reg hC) rfl rfl (⟨hC, hI, (okE_of hI b1), hJ, hL⟩) ⟨Nat.le_of_ble_eq_true rfl, Nat.le_of_ble_eq_true rfl⟩ rfl hl.1 rfl (Nat.le_of_ble_eq_true rfl) ⟨Nat.le_of_ble_eq_true rfl, Nat.le_of_ble_eq_true rfl⟩ dX10_quarrel_16 ?_
    refine lv_aload_n hx hb dX10_quarrel_19 rfl (lv_at hl 1 rfl) ?_
    refine lv_aload_n hx hb dX10_quarrel_20 rfl (lv_at hl 0 rfl) ?_
    refine lv_iconst (v := 0) hx hb dX10_quarrel_21 (by decide) ?_
    refine lv_iconst (v := 1) hx hb dX10_quarrel_22 (by decide) ?_
    refine cr_V (As := [.ref (L 24 e.toNatClampNeg), .int 0, .int 1]) (rest := [.int (k_nameOf σ e 0 0)]) hx hb hml hown hu hE (x_nameA l E A σ L e 0 1) kX10_nameAfter u725 (cd_reg hC) rfl rfl (⟨hC, hI, (okE_of hI b1), hJ, hL⟩) ⟨Nat.le_of_ble_eq_true rfl, Nat.le_of_ble_eq_true rfl⟩ rfl hl.1 rfl (Nat.le_of_ble_eq_true rfl) ⟨Nat.le_of_ble_eq_true rfl, Nat.le_of_ble_eq_true rfl⟩ dX10_quarrel_23 ?_
    refine lv_icmp_ne (tgt := 46) hx hb dX10_quarrel_26 (by decide) (fun c2 => ?_) (fun c2 => ?_)
    · refine lv_iconst (v := 1) hx hb dX10_quarrel_46 (by decide) ?_
      refine lv_goto (tgt := 51) hx hb dX10_quarrel_47 (by decide) ?_
      exact cr_rz hx hb hr hlocks (by simp only [k_quarrel, b1, decide_eq_false c2, Bool.not_true, Bool.not_false, Bool.and_true, Bool.true_and, Bool.and_false, Bool.false_and, Bool.or_true, Bool.true_or, Bool.or_false, Bool.false_or, Bool.and_self, Bool.or_self, eq_self, if_true, Bool.false_eq_true, if_false] <;> rfl) (rfl) dX10_quarrel_51
    · refine lv_aload_n hx hb dX10_quarrel_29 rfl (lv_at hl 1 rfl) ?_
      refine lv_aload_n hx hb dX10_quarrel_30 rfl (lv_at hl 0 rfl) ?_
      refine lv_iconst (v := 1) hx hb dX10_quarrel_31 (by decide) ?_
      refine lv_iconst (v := 0) hx hb dX10_quarrel_32 (by decide) ?_
      refine cr_V (As := [.ref (L 24 e.toNatClampNeg), .int 1, .int 0]) (rest := []) hx hb hml hown hu hE (x_nameA l E A σ L e 1 0) kX10_nameAfter u725 (cd_reg hC) rfl rfl (⟨hC, hI, (okE_of hI b1), hJ, hL⟩) ⟨Nat.le_of_ble_eq_true rfl, Nat.le_of_ble_eq_true rfl⟩ rfl hl.1 rfl (Nat.le_of_ble_eq_true rfl) ⟨Nat.le_of_ble_eq_true rfl, Nat.le_of_ble_eq_true rfl⟩ dX10_quarrel_33 ?_
      refine lv_aload_n hx hb dX10_quarrel_36 rfl (lv_at hl 1 rfl) ?_
      refine lv_aload_n hx hb dX10_quarrel_37 rfl (lv_at hl 0 rfl) ?_
      refine lv_iconst (v := 1) hx hb dX10_quarrel_38 (by decide) ?_
      refine lv_iconst (v := 1) hx hb dX10_quarrel_39 (by decide) ?_
      refine cr_V (As := [.ref (L 24 e.toNatClampNeg), .int 1, .int 1]) (rest := [.int (k_nameOf σ e 1 0)]) hx hb hml hown hu hE (x_nameA l E A σ L e 1 1) kX10_nameAfter u725 (cd_reg hC) rfl rfl (⟨hC, hI, (okE_of hI b1), hJ, hL⟩) ⟨Nat.le_of_ble_eq_true rfl, Nat.le_of_ble_eq_true rfl⟩ rfl hl.1 rfl (Nat.le_of_ble_eq_true rfl) ⟨Nat.le_of_ble_eq_true rfl, Nat.le_of_ble_eq_true rfl⟩ dX10_quarrel_40 ?_
      refine lv_icmp_eq (tgt := 50) hx hb dX10_quarrel_43 (by decide) (fun c3 => ?_) (fun c3 => ?_)
      · refine lv_iconst (v := 0) hx hb dX10_quarrel_50 (by decide) ?_
        exact cr_rz hx hb hr hlocks (by simp only [k_quarrel, b1, decide_eq_true c2, decide_eq_true c3, Bool.not_true, Bool.not_false, Bool.and_true, Bool.true_and, Bool.and_false, Bool.false_and, Bool.or_true, Bool.true_or, Bool.or_false, Bool.false_or, Bool.and_self, Bool.or_self, eq_self, if_true, Bool.false_eq_true, if_false] <;> rfl) (rfl) dX10_quarrel_51
      · refine lv_iconst (v := 1) hx hb dX10_quarrel_46 (by decide) ?_
        refine lv_goto (tgt := 51) hx hb dX10_quarrel_47 (by decide) ?_
        exact cr_rz hx hb hr hlocks (by simp only [k_quarrel, b1, decide_eq_true c2, decide_eq_false c3, Bool.not_true, Bool.not_false, Bool.and_true, Bool.true_and, Bool.and_false, Bool.false_and, Bool.or_true, Bool.true_or, Bool.or_false, Bool.false_or, Bool.and_self, Bool.or_self, eq_self, if_true, Bool.false_eq_true, if_false] <;> rfl) (rfl) dX10_quarrel_51
  · refine lv_astore_nN (lv' := [(2, .null), (0, .ref (L 0 0)), (1, .int e)]) hx hb dX10_quarrel_5 rfl hl (by decide) rfl (fun ls hl => ?_)
    refine lv_aload_nN hx hb dX10_quarrel_6 rfl (lv_at hl 0 rfl) ?_
    refine lv_ifnonnullN hx hb dX10_quarrel_7 ?_
    refine lv_iconst (v := 0) hx hb dX10_quarrel_10 (by decide) ?_
    exact cr_rz hx hb hr hlocks (by simp only [k_quarrel, b1, Bool.not_true, Bool.not_false, Bool.and_true, Bool.true_and, Bool.and_false, Bool.false_and, Bool.or_true, Bool.true_or, Bool.or_false, Bool.false_or, Bool.and_self, Bool.or_self, eq_self, if_true, Bool.false_eq_true, if_false] <;> rfl) (rfl) dX10_quarrel_11
set_option maxHeartbeats 1000000 in
set_option maxRecDepth 20000 in
theorem x_entry (l : Launch) (E : EV) (A : Nat → Prop) (σ : St) (L : Nat → Nat → Nat) (e f dy : Int32) : Cr l E yX10_entry cX10_entry 7 (some .int) 4 85 [.ref (L 0 0), .int e, .int f, .int dy] (fun H => Cd E A σ L H ∧ InvM σ ∧ InvJ σ) (some (.int (k_entry σ e f dy))) := by
  refine Cr.of (by decide +kernel) (Nat.le_of_ble_eq_true rfl) (fun pg ev s mi bel mth cd hx hb hr hml hown hu hlocks hE hP ls hl => ?_)
  have hl : lv_has ls 7 [(0, .ref (L 0 0)), (1, .int e), (2, .int f), (3, .int dy)] := hl
  obtain ⟨hC, hI, hJ⟩ := hP
  have hn := cnt_le (N := 100) hI.1.2.2.2.2.2.2.2.2
  have hc := cnt_nI hI.1.2.2.2.2.2.2.2.2
  refine lv_aload_n hx hb dX10_entry_0 rfl (lv_at hl 0 rfl) ?_
  refine lv_iload_n hx hb dX10_entry_1 rfl (lv_at hl 1 rfl) ?_
  refine cr_V (As := [.int e]) (rest := []) hx hb hml hown hu hE (x_entAt l E A σ L e) kX10_entryAt u686 (cd_reg hC) rfl rfl (⟨hC, hI⟩) ⟨Nat.le_of_ble_eq_true rfl, Nat.le_of_ble_eq_true rfl⟩ rfl hl.1 rfl (Nat.le_of_ble_eq_true rfl) ⟨Nat.le_of_ble_eq_true rfl, Nat.le_of_ble_eq_true rfl⟩ dX10_entry_2 ?_
  refine onO (fun b1 => ?_) (fun b1 => ?_)
  · refine lv_astore (lv' := [(4, .ref (L 24 e.toNatClampNeg)), (0, .ref (L 0 0)), (1, .int e), (2, .int f), (3, .int dy)]) hx hb dX10_entry_5 hl (by decide) rfl (fun ls hl => ?_)
    refine lv_aload hx hb dX10_entry_7 (lv_at hl 0 rfl) ?_
    refine lv_ifnull hx hb dX10_entry_9 ?_
    refine lv_iload_n hx hb dX10_entry_12 rfl (lv_at hl 3 rfl) ?_
    refine lv_if_lt (tgt := 39) hx hb dX10_entry_13 (by decide) (fun c2 => ?_) (fun c2 => ?_)
    · refine lv_iconst (v := (-1)) hx hb dX10_entry_39 (by decide) ?_
      exact cr_ri hx hb hr hlocks (by simp only [k_entry, c_enBad, b1, decide_eq_true c2, Bool.not_true, Bool.not_false, Bool.and_true, Bool.true_and, Bool.and_false, Bool.false_and, Bool.or_true, Bool.true_or, Bool.or_false, Bool.false_or, Bool.and_self, Bool.or_self, eq_self, if_true, Bool.false_eq_true, if_false]) dX10_entry_40
    · refine lv_iload_n hx hb dX10_entry_16 rfl (lv_at hl 3 rfl) ?_
      refine lv_bipush (v := 8) hx hb dX10_entry_17 (by decide) ?_
      refine lv_icmp_ge (tgt := 39) hx hb dX10_entry_19 (by decide) (fun c3 => ?_) (fun c3 => ?_)
      · refine lv_iconst (v := (-1)) hx hb dX10_entry_39 (by decide) ?_
        exact cr_ri hx hb hr hlocks (by simp only [k_entry, c_enBad, b1, decide_eq_false c2, decide_eq_false (Int32.not_lt.mpr c3), Bool.not_true, Bool.not_false, Bool.and_true, Bool.true_and, Bool.and_false, Bool.false_and, Bool.or_true, Bool.true_or, Bool.or_false, Bool.false_or, Bool.and_self, Bool.or_self, eq_self, if_true, Bool.false_eq_true, if_false]) dX10_entry_40
      · refine lv_iload_n hx hb dX10_entry_22 rfl (lv_at hl 4 rfl) ?_
        refine lv_aload hx hb dX10_entry_23 (lv_at hl 0 rfl) ?_
        refine rd_get (k := 1) (v := .int (gR σ 200 e 0)) hx hb hown hu hE ok4 (cd_ent hC (okE_lt (okE_of hI b1))) (by decide) u658 (fun _ h => h) rfl dX10_entry_25 ?_
        refine lv_icmp_lt (tgt := 39) hx hb dX10_entry_28 (by decide) (fun c4 => ?_) (fun c4 => ?_)
        · refine lv_iconst (v := (-1)) hx hb dX10_entry_39 (by decide) ?_
          exact cr_ri hx hb hr hlocks (by simp only [k_entry, c_enBad, b1, decide_eq_false c2, decide_eq_true (Int32.not_le.mp c3), decide_eq_true c4, Bool.not_true, Bool.not_false, Bool.and_true, Bool.true_and, Bool.and_false, Bool.false_and, Bool.or_true, Bool.true_or, Bool.or_false, Bool.false_or, Bool.and_self, Bool.or_self, eq_self, if_true, Bool.false_eq_true, if_false]) dX10_entry_40
        · refine lv_iload_n hx hb dX10_entry_31 rfl (lv_at hl 4 rfl) ?_
          refine lv_aload_n hx hb dX10_entry_32 rfl (lv_at hl 1 rfl) ?_
          refine rd_get (k := 0) (v := .int (σ 0 0)) hx hb hown hu hE ok11 (cd_reg hC) (by decide) u137 (fun _ h => h) rfl dX10_entry_33 ?_
          refine lv_icmp_le (tgt := 41) hx hb dX10_entry_36 (by decide) (fun c5 => ?_) (fun c5 => ?_)
          · refine lv_aload_n hx hb dX10_entry_41 rfl (lv_at hl 1 rfl) ?_
            refine rd_get (k := 10) (v := .ref (L 9 5)) hx hb hown hu hE ok11 (cd_reg hC) (by decide) u147 (fun _ h => h) rfl dX10_entry_42 ?_
            refine cr_V (As := []) (rest := []) hx hb hml hown hu hE (c_LS5 l E A σ L) kJx4a65c_size_8abf5 u266 ((cd_lex hC (j := 5) (by omega)).choose_spec) rfl rfl (⟨hC, hI⟩) ⟨Nat.le_of_ble_eq_true rfl, Nat.le_of_ble_eq_true rfl⟩ rfl hl.1 rfl (Nat.le_of_ble_eq_true rfl) ⟨Nat.le_of_ble_eq_true rfl, Nat.le_of_ble_eq_true rfl⟩ dX10_entry_45 ?_
            refine lv_iconst (v := 1) hx hb dX10_entry_48 (by decide) ?_
            refine lv_isub hx hb dX10_entry_49 ?_
            refine lv_istore (lv' := [(5, .int ((σ 35 0) - 1)), (4, .ref (L 24 e.toNatClampNeg)), (0, .ref (L 0 0)), (1, .int e), (2, .int f), (3, .int dy)]) hx hb dX10_entry_50 hl (by decide) rfl (fun ls hl => ?_)
            obtain ⟨T, hT⟩ : ∃ z, z = c_enD σ e f dy (nn σ 35) := ⟨_, rfl⟩
            have lo : ∀ (m : Nat) (x : Int32), (m ≤ nn σ 35) → (x.toInt = (m : Int) - 1) → (c_enD σ e f dy m = T) → ∀ (ls : Array Slot), lv_has ls 7 [(0, .ref (L 0 0)), (1, .int e), (2, .int f), (3, .int dy), (4, .ref (L 24 e.toNatClampNeg)), (5, .int x)] → W pg l ev { frames := 4, cells := 0, slots := 0, locals := 85 } s mi [.ref (L 0 0), .int e, .int f, .int dy].toArray bel mth cd s.heap [] 0 0 (QR bel s [.ref (L 0 0), .int e, .int f, .int dy].toArray (some (.int (k_entry σ e f dy)))) (F0 mi 52 ls []) := by
              intro m
              induction m with
              | zero =>
                intro x hk hx_ hi ls hl
                refine lv_iload hx hb dX10_entry_52 (lv_at hl 5 rfl) ?_
                refine lv_if_lt (tgt := 110) hx hb dX10_entry_54 (by decide) (fun c6 => ?_) (fun c6 => absurd (by rw [i_lt]; have e0 : (0 : Int32).toInt = 0 := rfl; omega) c6)
                refine lv_aload hx hb dX10_entry_110 (lv_at hl 4 rfl) ?_
                refine lv_iload_n hx hb dX10_entry_112 rfl (lv_at hl 2 rfl) ?_
                refine cr_V (As := [.int f]) (rest := []) hx hb hml hown hu hE (x_wr l E A σ L e f) kX3_written u717 (cd_ent hC (okE_lt (okE_of hI b1))) rfl rfl (⟨hC, hI, (okE_of hI b1), hJ⟩) ⟨Nat.le_of_ble_eq_true rfl, Nat.le_of_ble_eq_true rfl⟩ rfl hl.1 rfl (Nat.le_of_ble_eq_true rfl) ⟨Nat.le_of_ble_eq_true rfl, Nat.le_of_ble_eq_true rfl⟩ dX10_entry_113 ?_
                exact cr_ri hx hb hr hlocks (by (rw [c_enD] at hi; simp only [k_entry, c_enBad, b1, decide_eq_false c2, decide_eq_true (Int32.not_le.mp c3), decide_eq_false c4, decide_eq_false (Int32.not_lt.mpr c5), Bool.not_true, Bool.not_false, Bool.and_true, Bool.true_and, Bool.and_false, Bool.false_and, Bool.or_true, Bool.true_or, Bool.or_false, Bool.false_or, Bool.and_self, Bool.or_self, eq_self, if_true, Bool.false_eq_true, if_false]; rw [← hT, ← hi])) dX10_entry_116
              | succ m ih =>
                intro x hk hx_ hi ls hl
                refine lv_iload hx hb dX10_entry_52 (lv_at hl 5 rfl) ?_
                refine lv_if_lt (tgt := 110) hx hb dX10_entry_54 (by decide) (fun c7 => absurd c7 (by rw [i_lt]; have e0 : (0 : Int32).toInt = 0 := rfl; omega)) (fun c7 => ?_)
                refine lv_aload_n hx hb dX10_entry_57 rfl (lv_at hl 0 rfl) ?_
                refine rd_get (k := 10) (v := .ref (L 9 5)) hx hb hown hu hE ok11 (cd_reg hC) (by decide) u147 (fun _ h => h) rfl dX10_entry_58 ?_
                refine lv_iload hx hb dX10_entry_61 (lv_at hl 5 rfl) ?_
                refine cr_V (As := [.int x]) (rest := []) hx hb hml hown hu hE (c_LG5 l E A σ L x) kJx4a65c_get_915e3 u275 ((cd_lex hC (j := 5) (by omega)).choose_spec) rfl rfl (⟨hC, okC_of hI hx_ (by omega)⟩) ⟨Nat.le_of_ble_eq_true rfl, Nat.le_of_ble_eq_true rfl⟩ rfl hl.1 rfl (Nat.le_of_ble_eq_true rfl) ⟨Nat.le_of_ble_eq_true rfl, Nat.le_of_ble_eq_true rfl⟩ dX10_entry_63 ?_
                refine cl_cast hx hb hown hu hE ok2 u690 (cd_cor hC (ok_lt (t := 35) (okC_of hI hx_ (by omega)))) dX10_entry_66 ?_
                refine lv_astore (lv' := [(6, .ref (L 25 x.toNatClampNeg)), (0, .ref (L 0 0)), (1, .int e), (2, .int f), (3, .int dy), (4, .ref (L 24 e.toNatClampNeg)), (5, .int x)]) hx hb dX10_entry_69 hl (by decide) rfl (fun ls hl => ?_)
                refine lv_aload hx hb dX10_entry_71 (lv_at hl 0 rfl) ?_
                refine rd_get (k := 0) (v := .int (gA σ 31 x)) hx hb hown hu hE ok2 (cd_cor hC (ok_lt (t := 35) (okC_of hI hx_ (by omega)))) (by decide) u697 (fun _ h => h) rfl dX10_entry_73 ?_
                refine lv_iload_n hx hb dX10_entry_76 rfl (lv_at hl 2 rfl) ?_
                refine lv_icmp_ne (tgt := 104) hx hb dX10_entry_77 (by decide) (fun c8 => ?_) (fun c8 => ?_)
                · refine lv_iinc (v := x + (-1)) (lv' := [(5, .int (x + (-1))), (6, .ref (L 25 x.toNatClampNeg)), (0, .ref (L 0 0)), (1, .int e), (2, .int f), (3, .int dy), (4, .ref (L 24 e.toNatClampNeg))]) hx hb dX10_entry_104 hl (k := 6) rfl rfl (by decide) rfl (fun ls hl => ?_)
                  refine lv_goto (tgt := 52) hx hb dX10_entry_107 (by decide) ?_
                  exact ih _ (by omega) (dec_x hx_) (by rw [c_enD, ← x_nI hx_] at hi; simp only [m_enC, b1, decide_eq_false c2, decide_eq_true (Int32.not_le.mp c3), decide_eq_false c4, decide_eq_false (Int32.not_lt.mpr c5), decide_eq_false c8, Bool.not_true, Bool.not_false, Bool.and_true, Bool.true_and, Bool.and_false, Bool.false_and, Bool.or_true, Bool.true_or, Bool.or_false, Bool.false_or, Bool.and_self, Bool.or_self, eq_self, if_true, Bool.false_eq_true, if_false] at hi; exact hi) _ (lv_sub hl [2, 3, 4, 5, 6, 0] rfl)
                · refine lv_aload hx hb dX10_entry_80 (lv_at hl 0 rfl) ?_
                  refine rd_get (k := 1) (v := .int (gA σ 32 x)) hx hb hown hu hE ok2 (cd_cor hC (ok_lt (t := 35) (okC_of hI hx_ (by omega)))) (by decide) u699 (fun _ h => h) rfl dX10_entry_82 ?_
                  refine lv_iload_n hx hb dX10_entry_85 rfl (lv_at hl 3 rfl) ?_
                  refine lv_icmp_ne (tgt := 104) hx hb dX10_entry_86 (by decide) (fun c9 => ?_) (fun c9 => ?_)
                  · refine lv_iinc (v := x + (-1)) (lv' := [(5, .int (x + (-1))), (6, .ref (L 25 x.toNatClampNeg)), (0, .ref (L 0 0)), (1, .int e), (2, .int f), (3, .int dy), (4, .ref (L 24 e.toNatClampNeg))]) hx hb dX10_entry_104 hl (k := 6) rfl rfl (by decide) rfl (fun ls hl => ?_)
                    refine lv_goto (tgt := 52) hx hb dX10_entry_107 (by decide) ?_
                    exact ih _ (by omega) (dec_x hx_) (by rw [c_enD, ← x_nI hx_] at hi; simp only [m_enC, b1, decide_eq_false c2, decide_eq_true (Int32.not_le.mp c3), decide_eq_false c4, decide_eq_false (Int32.not_lt.mpr c5), decide_eq_true c8, decide_eq_false c9, Bool.not_true, Bool.not_false, Bool.and_true, Bool.true_and, Bool.and_false, Bool.false_and, Bool.or_true, Bool.true_or, Bool.or_false, Bool.false_or, Bool.and_self, Bool.or_self, eq_self, if_true, Bool.false_eq_true, if_false] at hi; exact hi) _ (lv_sub hl [2, 3, 4, 5, 6, 0] rfl)
                  · refine lv_aload hx hb dX10_entry_89 (lv_at hl 0 rfl) ?_
                    refine rd_get (k := 3) (v := .int (gA σ 34 x)) hx hb hown hu hE ok2 (cd_cor hC (ok_lt (t := 35) (okC_of hI hx_ (by omega)))) (by decide) u703 (fun _ h => h) rfl dX10_entry_91 ?_
                    refine lv_iload_n hx hb dX10_entry_94 rfl (lv_at hl 4 rfl) ?_
                    refine lv_icmp_gt (tgt := 104) hx hb dX10_entry_95 (by decide) (fun c10 => ?_) (fun c10 => ?_)
                    · refine lv_iinc (v := x + (-1)) (lv' := [(5, .int (x + (-1))), (6, .ref (L 25 x.toNatClampNeg)), (0, .ref (L 0 0)), (1, .int e), (2, .int f), (3, .int dy), (4, .ref (L 24 e.toNatClampNeg))]) hx hb dX10_entry_104 hl (k := 6) rfl rfl (by decide) rfl (fun ls hl => ?_)
                      refine lv_goto (tgt := 52) hx hb dX10_entry_107 (by decide) ?_
                      exact ih _ (by omega) (dec_x hx_) (by rw [c_enD, ← x_nI hx_] at hi; simp only [m_enC, b1, decide_eq_false c2, decide_eq_true (Int32.not_le.mp c3), decide_eq_false c4, decide_eq_false (Int32.not_lt.mpr c5), decide_eq_true c8, decide_eq_true c9, decide_eq_true c10, Bool.not_true, Bool.not_false, Bool.and_true, Bool.true_and, Bool.and_false, Bool.false_and, Bool.or_true, Bool.true_or, Bool.or_false, Bool.false_or, Bool.and_self, Bool.or_self, eq_self, if_true, Bool.false_eq_true, if_false] at hi; exact hi) _ (lv_sub hl [2, 3, 4, 5, 6, 0] rfl)
                    · refine lv_aload hx hb dX10_entry_98 (lv_at hl 0 rfl) ?_
                      refine rd_get (k := 2) (v := .int (gA σ 33 x)) hx hb hown hu hE ok2 (cd_cor hC (ok_lt (t := 35) (okC_of hI hx_ (by omega)))) (by decide) u701 (fun _ h => h) rfl dX10_entry_100 ?_
                      exact cr_ri hx hb hr hlocks (by (rw [c_enD, ← x_nI hx_] at hi; simp only [m_enC, b1, decide_eq_false c2, decide_eq_true (Int32.not_le.mp c3), decide_eq_false c4, decide_eq_false (Int32.not_lt.mpr c5), decide_eq_true c8, decide_eq_true c9, decide_eq_false c10, Bool.not_true, Bool.not_false, Bool.and_true, Bool.true_and, Bool.and_false, Bool.false_and, Bool.or_true, Bool.true_or, Bool.or_false, Bool.false_or, Bool.and_self, Bool.or_self, eq_self, if_true, Bool.false_eq_true, if_false] at hi; simp only [k_entry, c_enBad, b1, decide_eq_false c2, decide_eq_true (Int32.not_le.mp c3), decide_eq_false c4, decide_eq_false (Int32.not_lt.mpr c5), decide_eq_true c8, decide_eq_true c9, decide_eq_false c10, Bool.not_true, Bool.not_false, Bool.and_true, Bool.true_and, Bool.and_false, Bool.false_and, Bool.or_true, Bool.true_or, Bool.or_false, Bool.false_or, Bool.and_self, Bool.or_self, eq_self, if_true, Bool.false_eq_true, if_false]; rw [← hT, ← hi])) dX10_entry_103
            exact lo (nn σ 35) _ (Nat.le_refl _) (en_last hI) hT.symm _ (lv_sub hl [2, 3, 4, 5, 1, 0] rfl)
          · refine lv_iconst (v := (-1)) hx hb dX10_entry_39 (by decide) ?_
            exact cr_ri hx hb hr hlocks (by simp only [k_entry, c_enBad, b1, decide_eq_false c2, decide_eq_true (Int32.not_le.mp c3), decide_eq_false c4, decide_eq_true (Int32.not_le.mp c5), Bool.not_true, Bool.not_false, Bool.and_true, Bool.true_and, Bool.and_false, Bool.false_and, Bool.or_true, Bool.true_or, Bool.or_false, Bool.false_or, Bool.and_self, Bool.or_self, eq_self, if_true, Bool.false_eq_true, if_false]) dX10_entry_40
  · refine lv_astoreN (lv' := [(4, .null), (0, .ref (L 0 0)), (1, .int e), (2, .int f), (3, .int dy)]) hx hb dX10_entry_5 hl (by decide) rfl (fun ls hl => ?_)
    refine lv_aloadN hx hb dX10_entry_7 (lv_at hl 0 rfl) ?_
    refine lv_ifnullN (tgt := 39) hx hb dX10_entry_9 (by decide) ?_
    refine lv_iconst (v := (-1)) hx hb dX10_entry_39 (by decide) ?_
    exact cr_ri hx hb hr hlocks (by simp only [k_entry, c_enBad, b1, Bool.not_true, Bool.not_false, Bool.and_true, Bool.true_and, Bool.and_false, Bool.false_and, Bool.or_true, Bool.true_or, Bool.or_false, Bool.false_or, Bool.and_self, Bool.or_self, eq_self, if_true, Bool.false_eq_true, if_false]) dX10_entry_40
