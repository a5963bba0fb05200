set_option maxHeartbeats 1000000 in
set_option maxRecDepth 20000 in
theorem x_place (l : Launch) (E : EV) (A : Nat → Prop) (σ : St) (L : Nat → Nat → Nat) (h r : Int32) : Cr l E yX2_placeOf cX2_placeOf 4 (some .int) 0 0 [.ref (L 6 0), .int h, .int r] (fun H => Cd E A σ L H ∧ InvM σ) (some (.int (c_place h r))) := by
  refine Cr.of (by decide +kernel) (Nat.le_of_ble_eq_true rfl) (fun pg ev s mi bel mth cd hx hb hr hml hown hu hlocks hE hP ls hl => ?_)
  have hl : lv_has ls 4 [(0, .ref (L 6 0)), (1, .int h), (2, .int r)] := hl
  obtain ⟨hC, hI⟩ := hP
  refine lv_iload_n hx hb dX2_placeOf_0 rfl (lv_at hl 1 rfl) ?_
  refine lv_bipush (v := 8) hx hb dX2_placeOf_1 (by decide) ?_
  refine lv_isub hx hb dX2_placeOf_3 ?_
  refine lv_istore_n (lv' := [(3, .int (h - 8)), (0, .ref (L 6 0)), (1, .int h), (2, .int r)]) hx hb dX2_placeOf_4 rfl hl (by decide) rfl (fun ls hl => ?_)
  refine lv_iload_n hx hb dX2_placeOf_5 rfl (lv_at hl 0 rfl) ?_
  refine lv_if_lt (tgt := 25) hx hb dX2_placeOf_6 (by decide) (fun c1 => ?_) (fun c1 => ?_)
  · refine lv_iconst (v := (-1)) hx hb dX2_placeOf_25 (by decide) ?_
    exact cr_ri hx hb hr hlocks (by simp only [c_place, decide_eq_true c1, Bool.not_true, Bool.not_false, Bool.and_true, Bool.true_and, Bool.and_false, Bool.false_and, Bool.or_true, Bool.true_or, Bool.or_false, Bool.false_or, Bool.and_self, Bool.or_self, eq_self, if_true, Bool.false_eq_true, if_false]) dX2_placeOf_26
  · refine lv_iload_n hx hb dX2_placeOf_9 rfl (lv_at hl 0 rfl) ?_
    refine lv_bipush (v := 10) hx hb dX2_placeOf_10 (by decide) ?_
    refine lv_icmp_ge (tgt := 25) hx hb dX2_placeOf_12 (by decide) (fun c2 => ?_) (fun c2 => ?_)
    · refine lv_iconst (v := (-1)) hx hb dX2_placeOf_25 (by decide) ?_
      exact cr_ri hx hb hr hlocks (by simp only [c_place, decide_eq_false c1, decide_eq_false (Int32.not_lt.mpr c2), Bool.not_true, Bool.not_false, Bool.and_true, Bool.true_and, Bool.and_false, Bool.false_and, Bool.or_true, Bool.true_or, Bool.or_false, Bool.false_or, Bool.and_self, Bool.or_self, eq_self, if_true, Bool.false_eq_true, if_false]) dX2_placeOf_26
    · refine lv_iload_n hx hb dX2_placeOf_15 rfl (lv_at hl 3 rfl) ?_
      refine lv_if_lt (tgt := 25) hx hb dX2_placeOf_16 (by decide) (fun c3 => ?_) (fun c3 => ?_)
      · refine lv_iconst (v := (-1)) hx hb dX2_placeOf_25 (by decide) ?_
        exact cr_ri hx hb hr hlocks (by simp only [c_place, decide_eq_false c1, decide_eq_true (Int32.not_le.mp c2), decide_eq_true c3, Bool.not_true, Bool.not_false, Bool.and_true, Bool.true_and, Bool.and_false, Bool.false_and, Bool.or_true, Bool.true_or, Bool.or_false, Bool.false_or, Bool.and_self, Bool.or_self, eq_self, if_true, Bool.false_eq_true, if_false]) dX2_placeOf_26
      · refine lv_iload_n hx hb dX2_placeOf_19 rfl (lv_at hl 3 rfl) ?_
        refine lv_bipush (v := 6) hx hb dX2_placeOf_20 (by decide) ?_
        refine lv_icmp_lt (tgt := 27) hx hb dX2_placeOf_22 (by decide) (fun c4 => ?_) (fun c4 => ?_)
        · refine lv_iload_n hx hb dX2_placeOf_27 rfl (lv_at hl 0 rfl) ?_
          refine lv_bipush (v := 6) hx hb dX2_placeOf_28 (by decide) ?_
          refine lv_imul hx hb dX2_placeOf_30 ?_
          refine lv_iload_n hx hb dX2_placeOf_31 rfl (lv_at hl 3 rfl) ?_
          refine lv_iadd hx hb dX2_placeOf_32 ?_
          exact cr_ri hx hb hr hlocks (by simp only [c_place, decide_eq_false c1, decide_eq_true (Int32.not_le.mp c2), decide_eq_false c3, decide_eq_true c4, Bool.not_true, Bool.not_false, Bool.and_true, Bool.true_and, Bool.and_false, Bool.false_and, Bool.or_true, Bool.true_or, Bool.or_false, Bool.false_or, Bool.and_self, Bool.or_self, eq_self, if_true, Bool.false_eq_true, if_false]) dX2_placeOf_33
        · refine lv_iconst (v := (-1)) hx hb dX2_placeOf_25 (by decide) ?_
          exact cr_ri hx hb hr hlocks (by simp only [c_place, decide_eq_false c1, decide_eq_true (Int32.not_le.mp c2), decide_eq_false c3, decide_eq_false c4, Bool.not_true, Bool.not_false, Bool.and_true, Bool.true_and, Bool.and_false, Bool.false_and, Bool.or_true, Bool.true_or, Bool.or_false, Bool.false_or, Bool.and_self, Bool.or_self, eq_self, if_true, Bool.false_eq_true, if_false]) dX2_placeOf_26
set_option maxHeartbeats 1000000 in
set_option maxRecDepth 20000 in
theorem x_taken (l : Launch) (E : EV) (A : Nat → Prop) (σ : St) (L : Nat → Nat → Nat) (tf hf : Nat → Int32) (h w : Int32) : Cr l E yX2_isTaken cX2_isTaken 4 (some .boolean) 0 0 [.ref (L 6 0), .int h, .int w] (fun H => Cd E A σ L H ∧ InvM σ ∧ plK E L tf hf H) (some (.int (bI (c_taken tf h w)))) := by
  refine Cr.of (by decide +kernel) (Nat.le_of_ble_eq_true rfl) (fun pg ev s mi bel mth cd hx hb hr hml hown hu hlocks hE hP ls hl => ?_)
  have hl : lv_has ls 4 [(0, .ref (L 6 0)), (1, .int h), (2, .int w)] := hl
  obtain ⟨hC, hI, hPl⟩ := hP
  refine lv_iload_n hx hb dX2_isTaken_0 rfl (lv_at hl 1 rfl) ?_
  refine lv_bipush (v := 8) hx hb dX2_isTaken_1 (by decide) ?_
  refine lv_isub hx hb dX2_isTaken_3 ?_
  refine lv_istore_n (lv' := [(3, .int (h - 8)), (0, .ref (L 6 0)), (1, .int h), (2, .int w)]) hx hb dX2_isTaken_4 rfl hl (by decide) rfl (fun ls hl => ?_)
  refine lv_iload_n hx hb dX2_isTaken_5 rfl (lv_at hl 0 rfl) ?_
  refine lv_if_lt (tgt := 32) hx hb dX2_isTaken_6 (by decide) (fun c1 => ?_) (fun c1 => ?_)
  · refine lv_iconst (v := 0) hx hb dX2_isTaken_32 (by decide) ?_
    exact cr_rz hx hb hr hlocks (by simp only [c_taken, decide_eq_true c1, Bool.not_true, Bool.not_false, Bool.and_true, Bool.true_and, Bool.and_false, Bool.false_and, Bool.or_true, Bool.true_or, Bool.or_false, Bool.false_or, Bool.and_self, Bool.or_self, eq_self, if_true, Bool.false_eq_true, if_false] <;> rfl) (rfl) dX2_isTaken_33
  · refine lv_iload_n hx hb dX2_isTaken_9 rfl (lv_at hl 0 rfl) ?_
    refine lv_bipush (v := 10) hx hb dX2_isTaken_10 (by decide) ?_
    refine lv_icmp_ge (tgt := 32) hx hb dX2_isTaken_12 (by decide) (fun c2 => ?_) (fun c2 => ?_)
    · refine lv_iconst (v := 0) hx hb dX2_isTaken_32 (by decide) ?_
      exact cr_rz hx hb hr hlocks (by simp only [c_taken, decide_eq_false c1, decide_eq_false (Int32.not_lt.mpr c2), Bool.not_true, Bool.not_false, Bool.and_true, Bool.true_and, Bool.and_false, Bool.false_and, Bool.or_true, Bool.true_or, Bool.or_false, Bool.false_or, Bool.and_self, Bool.or_self, eq_self, if_true, Bool.false_eq_true, if_false] <;> rfl) (rfl) dX2_isTaken_33
    · refine lv_aload_n hx hb dX2_isTaken_15 rfl (lv_at hl 1 rfl) ?_
      refine rd_get (k := 0) (v := .ref (L 7 0)) hx hb hown hu hE ok3 (cd_pl hC) (by decide) u130 (fun _ h => h) rfl dX2_isTaken_16 ?_
      refine lv_iload_n hx hb dX2_isTaken_19 rfl (lv_at hl 0 rfl) ?_
      refine rd_iald hx hb hE (hPl.1) (in10 c1 c2) dX2_isTaken_20 ?_
      refine lv_iload_n hx hb dX2_isTaken_21 rfl (lv_at hl 3 rfl) ?_
      refine lv_ishr hx hb dX2_isTaken_22 ?_
      refine lv_iconst (v := 1) hx hb dX2_isTaken_23 (by decide) ?_
      refine lv_iand hx hb dX2_isTaken_24 ?_
      refine lv_if_eq (tgt := 32) hx hb dX2_isTaken_25 (by decide) (fun c3 => ?_) (fun c3 => ?_)
      · refine lv_iconst (v := 0) hx hb dX2_isTaken_32 (by decide) ?_
        exact cr_rz hx hb hr hlocks (by simp only [c_taken, decide_eq_false c1, decide_eq_true (Int32.not_le.mp c2), decide_eq_true c3, Bool.not_true, Bool.not_false, Bool.and_true, Bool.true_and, Bool.and_false, Bool.false_and, Bool.or_true, Bool.true_or, Bool.or_false, Bool.false_or, Bool.and_self, Bool.or_self, eq_self, if_true, Bool.false_eq_true, if_false] <;> rfl) (rfl) dX2_isTaken_33
      · refine lv_iconst (v := 1) hx hb dX2_isTaken_28 (by decide) ?_
        refine lv_goto (tgt := 33) hx hb dX2_isTaken_29 (by decide) ?_
        exact cr_rz hx hb hr hlocks (by simp only [c_taken, decide_eq_false c1, decide_eq_true (Int32.not_le.mp c2), decide_eq_false c3, Bool.not_true, Bool.not_false, Bool.and_true, Bool.true_and, Bool.and_false, Bool.false_and, Bool.or_true, Bool.true_or, Bool.or_false, Bool.false_or, Bool.and_self, Bool.or_self, eq_self, if_true, Bool.false_eq_true, if_false] <;> rfl) (rfl) dX2_isTaken_33
set_option maxHeartbeats 1000000 in
set_option maxRecDepth 20000 in
theorem x_hallAt (l : Launch) (E : EV) (A : Nat → Prop) (σ : St) (L : Nat → Nat → Nat) (tf hf : Nat → Int32) (h r : Int32) : Cr l E yX2_hallAt cX2_hallAt 4 (some .int) 1 23 [.ref (L 6 0), .int h, .int r] (fun H => Cd E A σ L H ∧ InvM σ ∧ plK E L tf hf H) (some (.int (c_hallAt hf h r))) := by
  refine Cr.of (by decide +kernel) (Nat.le_of_ble_eq_true rfl) (fun pg ev s mi bel mth cd hx hb hr hml hown hu hlocks hE hP ls hl => ?_)
  have hl : lv_has ls 4 [(0, .ref (L 6 0)), (1, .int h), (2, .int r)] := hl
  obtain ⟨hC, hI, hPl⟩ := hP
  refine lv_aload_n hx hb dX2_hallAt_0 rfl (lv_at hl 0 rfl) ?_
  refine lv_iload_n hx hb dX2_hallAt_1 rfl (lv_at hl 1 rfl) ?_
  refine lv_iload_n hx hb dX2_hallAt_2 rfl (lv_at hl 2 rfl) ?_
  refine cr_V (As := [.int h, .int r]) (rest := []) hx hb hml hown hu hE (x_place l E A σ L h r) kX2_placeOf u603 (cd_pl hC) rfl rfl (⟨hC, hI⟩) ⟨Nat.le_of_ble_eq_true rfl, Nat.le_of_ble_eq_true rfl⟩ rfl hl.1 rfl (Nat.le_of_ble_eq_true rfl) ⟨Nat.le_of_ble_eq_true rfl, Nat.le_of_ble_eq_true rfl⟩ dX2_hallAt_3 ?_
  refine lv_istore_n (lv' := [(3, .int (c_place h r)), (0, .ref (L 6 0)), (1, .int h), (2, .int r)]) hx hb dX2_hallAt_6 rfl hl (by decide) rfl (fun ls hl => ?_)
  refine lv_iload_n hx hb dX2_hallAt_7 rfl (lv_at hl 0 rfl) ?_
  refine lv_iconst (v := (-1)) hx hb dX2_hallAt_8 (by decide) ?_
  refine lv_icmp_ne (tgt := 16) hx hb dX2_hallAt_9 (by decide) (fun c1 => ?_) (fun c1 => ?_)
  · refine lv_aload_n hx hb dX2_hallAt_16 rfl (lv_at hl 1 rfl) ?_
    refine rd_get (k := 1) (v := .ref (L 8 0)) hx hb hown hu hE ok3 (cd_pl hC) (by decide) u131 (fun _ h => h) rfl dX2_hallAt_17 ?_
    refine lv_iload_n hx hb dX2_hallAt_20 rfl (lv_at hl 0 rfl) ?_
    refine rd_iald hx hb hE (hPl.2) (place_in c1) dX2_hallAt_21 ?_
    exact cr_ri hx hb hr hlocks (by simp only [c_hallAt, decide_eq_false c1, Bool.not_true, Bool.not_false, Bool.and_true, Bool.true_and, Bool.and_false, Bool.false_and, Bool.or_true, Bool.true_or, Bool.or_false, Bool.false_or, Bool.and_self, Bool.or_self, eq_self, if_true, Bool.false_eq_true, if_false]) dX2_hallAt_22
  · refine lv_iconst (v := (-1)) hx hb dX2_hallAt_12 (by decide) ?_
    refine lv_goto (tgt := 22) hx hb dX2_hallAt_13 (by decide) ?_
    exact cr_ri hx hb hr hlocks (by simp only [c_hallAt, decide_eq_true c1, Bool.not_true, Bool.not_false, Bool.and_true, Bool.true_and, Bool.and_false, Bool.false_and, Bool.or_true, Bool.true_or, Bool.or_false, Bool.false_or, Bool.and_self, Bool.or_self, eq_self, if_true, Bool.false_eq_true, if_false]) dX2_hallAt_22
set_option maxHeartbeats 1000000 in
set_option maxRecDepth 20000 in
theorem x_barTo (l : Launch) (E : EV) (A : Nat → Prop) (σ : St) (L : Nat → Nat → Nat) (tf hf : Nat → Int32) (x : Int32) : Cr l E yX2_barTo cX2_barTo 7 (some .int) 2 46 [.ref (L 6 0), .int x] (fun H => Cd E A σ L H ∧ InvM σ ∧ plK E L tf hf H) (some (.int (c_barTo tf hf x))) := by
  refine Cr.of (by decide +kernel) (Nat.le_of_ble_eq_true rfl) (fun pg ev s mi bel mth cd hx hb hr hml hown hu hlocks hE hP ls hl => ?_)
  have hl : lv_has ls 7 [(0, .ref (L 6 0)), (1, .int x)] := hl
  obtain ⟨hC, hI, hPl⟩ := hP
  refine lv_iload_n hx hb dX2_barTo_0 rfl (lv_at hl 1 rfl) ?_
  refine cr_N (As := [.int x]) (rest := []) hx hb hml hown hu hE (x_hourOf l E x) kX10_hourOf (by decide +kernel) (trivial) ⟨Nat.le_of_ble_eq_true rfl, Nat.le_of_ble_eq_true rfl⟩ rfl hl.1 rfl (Nat.le_of_ble_eq_true rfl) ⟨Nat.le_of_ble_eq_true rfl, Nat.le_of_ble_eq_true rfl⟩ dX2_barTo_1 ?_
  refine lv_istore_n (lv' := [(2, .int (x / 100)), (0, .ref (L 6 0)), (1, .int x)]) hx hb dX2_barTo_4 rfl hl (by decide) rfl (fun ls hl => ?_)
  refine lv_iload_n hx hb dX2_barTo_5 rfl (lv_at hl 2 rfl) ?_
  refine cr_N (As := [.int x]) (rest := []) hx hb hml hown hu hE (x_hallOf l E x) kX10_hallOf (by decide +kernel) (trivial) ⟨Nat.le_of_ble_eq_true rfl, Nat.le_of_ble_eq_true rfl⟩ rfl hl.1 rfl (Nat.le_of_ble_eq_true rfl) ⟨Nat.le_of_ble_eq_true rfl, Nat.le_of_ble_eq_true rfl⟩ dX2_barTo_6 ?_
  refine lv_istore_n (lv' := [(3, .int (rm (x / 10) 10)), (2, .int (x / 100)), (0, .ref (L 6 0)), (1, .int x)]) hx hb dX2_barTo_9 rfl hl (by decide) rfl (fun ls hl => ?_)
  refine lv_iload_n hx hb dX2_barTo_10 rfl (lv_at hl 3 rfl) ?_
  refine cr_N (As := [.int x]) (rest := []) hx hb hml hown hu hE (x_regOf l E x) kX10_registrarOf (by decide +kernel) (trivial) ⟨Nat.le_of_ble_eq_true rfl, Nat.le_of_ble_eq_true rfl⟩ rfl hl.1 rfl (Nat.le_of_ble_eq_true rfl) ⟨Nat.le_of_ble_eq_true rfl, Nat.le_of_ble_eq_true rfl⟩ dX2_barTo_11 ?_
  refine lv_istore (lv' := [(4, .int (rm x 10)), (3, .int (rm (x / 10) 10)), (2, .int (x / 100)), (0, .ref (L 6 0)), (1, .int x)]) hx hb dX2_barTo_14 hl (by decide) rfl (fun ls hl => ?_)
  refine lv_aload_n hx hb dX2_barTo_16 rfl (lv_at hl 3 rfl) ?_
  refine lv_iload_n hx hb dX2_barTo_17 rfl (lv_at hl 2 rfl) ?_
  refine lv_iload_n hx hb dX2_barTo_18 rfl (lv_at hl 1 rfl) ?_
  refine cr_V (As := [.int (x / 100), .int (rm (x / 10) 10)]) (rest := []) hx hb hml hown hu hE (x_taken l E A σ L tf hf (x / 100) (rm (x / 10) 10)) kX2_isTaken u616 (cd_pl hC) rfl rfl (⟨hC, hI, hPl⟩) ⟨Nat.le_of_ble_eq_true rfl, Nat.le_of_ble_eq_true rfl⟩ rfl hl.1 rfl (Nat.le_of_ble_eq_true rfl) ⟨Nat.le_of_ble_eq_true rfl, Nat.le_of_ble_eq_true rfl⟩ dX2_barTo_19 ?_
  refine onB (fun b1 => ?_) (fun b1 => ?_)
  · refine lv_if_eq (tgt := 27) hx hb dX2_barTo_22 (by decide) (fun c2 => absurd c2 (by decide)) (fun _ => ?_)
    refine lv_iconst (v := 4) hx hb dX2_barTo_25 (by decide) ?_
    exact cr_ri hx hb hr hlocks (by simp only [c_barTo, b1, Bool.not_true, Bool.not_false, Bool.and_true, Bool.true_and, Bool.and_false, Bool.false_and, Bool.or_true, Bool.true_or, Bool.or_false, Bool.false_or, Bool.and_self, Bool.or_self, eq_self, if_true, Bool.false_eq_true, if_false]) dX2_barTo_26
  · refine lv_if_eq (tgt := 27) hx hb dX2_barTo_22 (by decide) (fun _ => ?_) (fun c3 => absurd (by decide) c3)
    refine lv_aload_n hx hb dX2_barTo_27 rfl (lv_at hl 3 rfl) ?_
    refine lv_iload_n hx hb dX2_barTo_28 rfl (lv_at hl 2 rfl) ?_
    refine lv_iload hx hb dX2_barTo_29 (lv_at hl 0 rfl) ?_
    refine cr_V (As := [.int (x / 100), .int (rm x 10)]) (rest := []) hx hb hml hown hu hE (x_hallAt l E A σ L tf hf (x / 100) (rm x 10)) kX2_hallAt u620 (cd_pl hC) rfl rfl (⟨hC, hI, hPl⟩) ⟨Nat.le_of_ble_eq_true rfl, Nat.le_of_ble_eq_true rfl⟩ rfl hl.1 rfl (Nat.le_of_ble_eq_true rfl) ⟨Nat.le_of_ble_eq_true rfl, Nat.le_of_ble_eq_true rfl⟩ dX2_barTo_31 ?_
    refine lv_iconst (v := (-1)) hx hb dX2_barTo_34 (by decide) ?_
    refine lv_icmp_eq (tgt := 40) hx hb dX2_barTo_35 (by decide) (fun c4 => ?_) (fun c4 => ?_)
    · refine lv_aload_n hx hb dX2_barTo_40 rfl (lv_at hl 3 rfl) ?_
      refine lv_iload_n hx hb dX2_barTo_41 rfl (lv_at hl 2 rfl) ?_
      refine lv_iconst (v := 1) hx hb dX2_barTo_42 (by decide) ?_
      refine lv_isub hx hb dX2_barTo_43 ?_
      refine lv_iload hx hb dX2_barTo_44 (lv_at hl 0 rfl) ?_
      refine cr_V (As := [.int ((x / 100) - 1), .int (rm x 10)]) (rest := []) hx hb hml hown hu hE (x_hallAt l E A σ L tf hf ((x / 100) - 1) (rm x 10)) kX2_hallAt u620 (cd_pl hC) rfl rfl (⟨hC, hI, hPl⟩) ⟨Nat.le_of_ble_eq_true rfl, Nat.le_of_ble_eq_true rfl⟩ rfl hl.1 rfl (Nat.le_of_ble_eq_true rfl) ⟨Nat.le_of_ble_eq_true rfl, Nat.le_of_ble_eq_true rfl⟩ dX2_barTo_46 ?_
      refine lv_istore (lv' := [(5, .int (c_hallAt hf ((x / 100) - 1) (rm x 10))), (4, .int (rm x 10)), (3, .int (rm (x / 10) 10)), (2, .int (x / 100)), (0, .ref (L 6 0)), (1, .int x)]) hx hb dX2_barTo_49 hl (by decide) rfl (fun ls hl => ?_)
      refine lv_aload_n hx hb dX2_barTo_51 rfl (lv_at hl 4 rfl) ?_
      refine lv_iload_n hx hb dX2_barTo_52 rfl (lv_at hl 3 rfl) ?_
      refine lv_iconst (v := 1) hx hb dX2_barTo_53 (by decide) ?_
      refine lv_iadd hx hb dX2_barTo_54 ?_
      refine lv_iload hx hb dX2_barTo_55 (lv_at hl 1 rfl) ?_
      refine cr_V (As := [.int ((x / 100) + 1), .int (rm x 10)]) (rest := []) hx hb hml hown hu hE (x_hallAt l E A σ L tf hf ((x / 100) + 1) (rm x 10)) kX2_hallAt u620 (cd_pl hC) rfl rfl (⟨hC, hI, hPl⟩) ⟨Nat.le_of_ble_eq_true rfl, Nat.le_of_ble_eq_true rfl⟩ rfl hl.1 rfl (Nat.le_of_ble_eq_true rfl) ⟨Nat.le_of_ble_eq_true rfl, Nat.le_of_ble_eq_true rfl⟩ dX2_barTo_57 ?_
      refine lv_istore (lv' := [(6, .int (c_hallAt hf ((x / 100) + 1) (rm x 10))), (5, .int (c_hallAt hf ((x / 100) - 1) (rm x 10))), (4, .int (rm x 10)), (3, .int (rm (x / 10) 10)), (2, .int (x / 100)), (0, .ref (L 6 0)), (1, .int x)]) hx hb dX2_barTo_60 hl (by decide) rfl (fun ls hl => ?_)
      refine lv_iload hx hb dX2_barTo_62 (lv_at hl 1 rfl) ?_
      refine lv_iconst (v := (-1)) hx hb dX2_barTo_64 (by decide) ?_
      refine lv_icmp_eq (tgt := 74) hx hb dX2_barTo_65 (by decide) (fun c5 => ?_) (fun c5 => ?_)
      · refine lv_iload hx hb dX2_barTo_74 (lv_at hl 0 rfl) ?_
        refine lv_iconst (v := (-1)) hx hb dX2_barTo_76 (by decide) ?_
        refine lv_icmp_eq (tgt := 89) hx hb dX2_barTo_77 (by decide) (fun c6 => ?_) (fun c6 => ?_)
        · refine lv_iconst (v := 0) hx hb dX2_barTo_89 (by decide) ?_
          exact cr_ri hx hb hr hlocks (by simp only [c_barTo, b1, decide_eq_true c4, decide_eq_true c5, decide_eq_true c6, Bool.not_true, Bool.not_false, Bool.and_true, Bool.true_and, Bool.and_false, Bool.false_and, Bool.or_true, Bool.true_or, Bool.or_false, Bool.false_or, Bool.and_self, Bool.or_self, eq_self, if_true, Bool.false_eq_true, if_false]) dX2_barTo_90
        · refine lv_iload hx hb dX2_barTo_80 (lv_at hl 0 rfl) ?_
          refine lv_iload_n hx hb dX2_barTo_82 rfl (lv_at hl 3 rfl) ?_
          refine lv_icmp_eq (tgt := 89) hx hb dX2_barTo_83 (by decide) (fun c7 => ?_) (fun c7 => ?_)
          · refine lv_iconst (v := 0) hx hb dX2_barTo_89 (by decide) ?_
            exact cr_ri hx hb hr hlocks (by simp only [c_barTo, b1, decide_eq_true c4, decide_eq_true c5, decide_eq_false c6, decide_eq_true c7, Bool.not_true, Bool.not_false, Bool.and_true, Bool.true_and, Bool.and_false, Bool.false_and, Bool.or_true, Bool.true_or, Bool.or_false, Bool.false_or, Bool.and_self, Bool.or_self, eq_self, if_true, Bool.false_eq_true, if_false]) dX2_barTo_90
          · refine lv_bipush (v := 6) hx hb dX2_barTo_86 (by decide) ?_
            exact cr_ri hx hb hr hlocks (by simp only [c_barTo, b1, decide_eq_true c4, decide_eq_true c5, decide_eq_false c6, decide_eq_false c7, Bool.not_true, Bool.not_false, Bool.and_true, Bool.true_and, Bool.and_false, Bool.false_and, Bool.or_true, Bool.true_or, Bool.or_false, Bool.false_or, Bool.and_self, Bool.or_self, eq_self, if_true, Bool.false_eq_true, if_false]) dX2_barTo_88
      · refine lv_iload hx hb dX2_barTo_68 (lv_at hl 1 rfl) ?_
        refine lv_iload_n hx hb dX2_barTo_70 rfl (lv_at hl 3 rfl) ?_
        refine lv_icmp_ne (tgt := 86) hx hb dX2_barTo_71 (by decide) (fun c8 => ?_) (fun c8 => ?_)
        · refine lv_bipush (v := 6) hx hb dX2_barTo_86 (by decide) ?_
          exact cr_ri hx hb hr hlocks (by simp only [c_barTo, b1, decide_eq_true c4, decide_eq_false c5, decide_eq_false c8, Bool.not_true, Bool.not_false, Bool.and_true, Bool.true_and, Bool.and_false, Bool.false_and, Bool.or_true, Bool.true_or, Bool.or_false, Bool.false_or, Bool.and_self, Bool.or_self, eq_self, if_true, Bool.false_eq_true, if_false]) dX2_barTo_88
        · refine lv_iload hx hb dX2_barTo_74 (lv_at hl 0 rfl) ?_
          refine lv_iconst (v := (-1)) hx hb dX2_barTo_76 (by decide) ?_
          refine lv_icmp_eq (tgt := 89) hx hb dX2_barTo_77 (by decide) (fun c9 => ?_) (fun c9 => ?_)
          · refine lv_iconst (v := 0) hx hb dX2_barTo_89 (by decide) ?_
            exact cr_ri hx hb hr hlocks (by simp only [c_barTo, b1, decide_eq_true c4, decide_eq_false c5, decide_eq_true c8, decide_eq_true c9, Bool.not_true, Bool.not_false, Bool.and_true, Bool.true_and, Bool.and_false, Bool.false_and, Bool.or_true, Bool.true_or, Bool.or_false, Bool.false_or, Bool.and_self, Bool.or_self, eq_self, if_true, Bool.false_eq_true, if_false]) dX2_barTo_90
          · refine lv_iload hx hb dX2_barTo_80 (lv_at hl 0 rfl) ?_
            refine lv_iload_n hx hb dX2_barTo_82 rfl (lv_at hl 3 rfl) ?_
            refine lv_icmp_eq (tgt := 89) hx hb dX2_barTo_83 (by decide) (fun c10 => ?_) (fun c10 => ?_)
            · refine lv_iconst (v := 0) hx hb dX2_barTo_89 (by decide) ?_
              exact cr_ri hx hb hr hlocks (by simp only [c_barTo, b1, decide_eq_true c4, decide_eq_false c5, decide_eq_true c8, decide_eq_false c9, decide_eq_true c10, Bool.not_true, Bool.not_false, Bool.and_true, Bool.true_and, Bool.and_false, Bool.false_and, Bool.or_true, Bool.true_or, Bool.or_false, Bool.false_or, Bool.and_self, Bool.or_self, eq_self, if_true, Bool.false_eq_true, if_false]) dX2_barTo_90
            · refine lv_bipush (v := 6) hx hb dX2_barTo_86 (by decide) ?_
              exact cr_ri hx hb hr hlocks (by simp only [c_barTo, b1, decide_eq_true c4, decide_eq_false c5, decide_eq_true c8, decide_eq_false c9, decide_eq_false c10, Bool.not_true, Bool.not_false, Bool.and_true, Bool.true_and, Bool.and_false, Bool.false_and, Bool.or_true, Bool.true_or, Bool.or_false, Bool.false_or, Bool.and_self, Bool.or_self, eq_self, if_true, Bool.false_eq_true, if_false]) dX2_barTo_88
    · refine lv_iconst (v := 5) hx hb dX2_barTo_38 (by decide) ?_
      exact cr_ri hx hb hr hlocks (by simp only [c_barTo, b1, decide_eq_false c4, Bool.not_true, Bool.not_false, Bool.and_true, Bool.true_and, Bool.and_false, Bool.false_and, Bool.or_true, Bool.true_or, Bool.or_false, Bool.false_or, Bool.and_self, Bool.or_self, eq_self, if_true, Bool.false_eq_true, if_false]) dX2_barTo_39
set_option maxHeartbeats 1000000 in
set_option maxRecDepth 20000 in
theorem x_barS (l : Launch) (E : EV) (A : Nat → Prop) (σ : St) (L : Nat → Nat → Nat) (tf hf : Nat → Int32) (n x : Int32) : Cr l E yX10_barToSlot cX10_barToSlot 4 (some .int) 3 72 [.ref (L 0 0), .ref (L 22 n.toNatClampNeg), .int x] (fun H => Cd E A σ L H ∧ InvM σ ∧ plK E L tf hf H ∧ okN σ n) (some (.int (c_barS σ tf hf n x))) := by
  refine Cr.of (by decide +kernel) (Nat.le_of_ble_eq_true rfl) (fun pg ev s mi bel mth cd hx hb hr hml hown hu hlocks hE hP ls hl => ?_)
  have hl : lv_has ls 4 [(0, .ref (L 0 0)), (1, .ref (L 22 n.toNatClampNeg)), (2, .int x)] := hl
  obtain ⟨hC, hI, hPl, hX⟩ := hP
  refine lv_aload_n hx hb dX10_barToSlot_0 rfl (lv_at hl 0 rfl) ?_
  refine rd_get (k := 11) (v := .ref (L 6 0)) hx hb hown hu hE ok11 (cd_reg hC) (by decide) u148 (fun _ h => h) rfl dX10_barToSlot_1 ?_
  refine lv_iload_n hx hb dX10_barToSlot_4 rfl (lv_at hl 2 rfl) ?_
  refine cr_V (As := [.int x]) (rest := []) hx hb hml hown hu hE (x_barTo l E A σ L tf hf x) kX2_barTo u612 (cd_pl hC) rfl rfl (⟨hC, hI, hPl⟩) ⟨Nat.le_of_ble_eq_true rfl, Nat.le_of_ble_eq_true rfl⟩ rfl hl.1 rfl (Nat.le_of_ble_eq_true rfl) ⟨Nat.le_of_ble_eq_true rfl, Nat.le_of_ble_eq_true rfl⟩ dX10_barToSlot_5 ?_
  refine lv_istore_n (lv' := [(3, .int (c_barTo tf hf x)), (0, .ref (L 0 0)), (1, .ref (L 22 n.toNatClampNeg)), (2, .int x)]) hx hb dX10_barToSlot_8 rfl hl (by decide) rfl (fun ls hl => ?_)
  refine lv_iload_n hx hb dX10_barToSlot_9 rfl (lv_at hl 0 rfl) ?_
  refine lv_if_eq (tgt := 15) hx hb dX10_barToSlot_10 (by decide) (fun c1 => ?_) (fun c1 => ?_)
  · refine lv_aload_n hx hb dX10_barToSlot_15 rfl (lv_at hl 1 rfl) ?_
    refine lv_iload_n hx hb dX10_barToSlot_16 rfl (lv_at hl 3 rfl) ?_
    refine cr_S (As := [.int x]) (rest := [.ref (L 0 0)]) hx hb hml hown hu hE (x_regOf l E x) kX10_registrarOf u571 (trivial) ⟨Nat.le_of_ble_eq_true rfl, Nat.le_of_ble_eq_true rfl⟩ rfl hl.1 rfl (Nat.le_of_ble_eq_true rfl) ⟨Nat.le_of_ble_eq_true rfl, Nat.le_of_ble_eq_true rfl⟩ dX10_barToSlot_17 ?_
    refine lv_aload_n hx hb dX10_barToSlot_20 rfl (lv_at hl 2 rfl) ?_
    refine cr_V (As := [.int (rm x 10), .ref (L 22 n.toNatClampNeg)]) (rest := []) hx hb hml hown hu hE (x_speaks l E A σ L (rm x 10) n) kX10_speaksWithBoth u624 (cd_reg hC) rfl rfl (⟨hC, hI, hX⟩) ⟨Nat.le_of_ble_eq_true rfl, Nat.le_of_ble_eq_true rfl⟩ rfl hl.1 rfl (Nat.le_of_ble_eq_true rfl) ⟨Nat.le_of_ble_eq_true rfl, Nat.le_of_ble_eq_true rfl⟩ dX10_barToSlot_21 ?_
    refine onB (fun b2 => ?_) (fun b2 => ?_)
    · refine lv_if_eq (tgt := 31) hx hb dX10_barToSlot_24 (by decide) (fun c3 => absurd c3 (by decide)) (fun _ => ?_)
      refine lv_iconst (v := 0) hx hb dX10_barToSlot_27 (by decide) ?_
      refine lv_goto (tgt := 33) hx hb dX10_barToSlot_28 (by decide) ?_
      exact cr_ri hx hb hr hlocks (by simp only [c_barS, decide_eq_true c1, b2, Bool.not_true, Bool.not_false, Bool.and_true, Bool.true_and, Bool.and_false, Bool.false_and, Bool.or_true, Bool.true_or, Bool.or_false, Bool.false_or, Bool.and_self, Bool.or_self, eq_self, if_true, Bool.false_eq_true, if_false]) dX10_barToSlot_33
    · refine lv_if_eq (tgt := 31) hx hb dX10_barToSlot_24 (by decide) (fun _ => ?_) (fun c4 => absurd (by decide) c4)
      refine lv_bipush (v := 7) hx hb dX10_barToSlot_31 (by decide) ?_
      exact cr_ri hx hb hr hlocks (by simp only [c_barS, decide_eq_true c1, b2, Bool.not_true, Bool.not_false, Bool.and_true, Bool.true_and, Bool.and_false, Bool.false_and, Bool.or_true, Bool.true_or, Bool.or_false, Bool.false_or, Bool.and_self, Bool.or_self, eq_self, if_true, Bool.false_eq_true, if_false]) dX10_barToSlot_33
  · refine lv_iload_n hx hb dX10_barToSlot_13 rfl (lv_at hl 0 rfl) ?_
    exact cr_ri hx hb hr hlocks (by simp only [c_barS, decide_eq_false c1, Bool.not_true, Bool.not_false, Bool.and_true, Bool.true_and, Bool.and_false, Bool.false_and, Bool.or_true, Bool.true_or, Bool.or_false, Bool.false_or, Bool.and_self, Bool.or_self, eq_self, if_true, Bool.false_eq_true, if_false]) dX10_barToSlot_14
set_option maxHeartbeats 1000000 in
set_option maxRecDepth 20000 in
theorem x_free (l : Launch) (E : EV) (A : Nat → Prop) (σ : St) (L : Nat → Nat → Nat) (tf hf : Nat → Int32) (n : Int32) : Cr l E yX10_firstFreeSlot cX10_firstFreeSlot 6 (some .int) 4 95 [.ref (L 0 0), .ref (L 22 n.toNatClampNeg)] (fun H => Cd E A σ L H ∧ InvM σ ∧ plK E L tf hf H ∧ okN σ n) (some (.int (oI (c_free σ tf hf n)))) := by
  refine Cr.of (by decide +kernel) (Nat.le_of_ble_eq_true rfl) (fun pg ev s mi bel mth cd hx hb hr hml hown hu hlocks hE hP ls hl => ?_)
  have hl : lv_has ls 6 [(0, .ref (L 0 0)), (1, .ref (L 22 n.toNatClampNeg))] := hl
  obtain ⟨hC, hI, hPl, hX⟩ := hP
  have hn := cnt_le (N := 6) hI.1.2.2.2.2.2.2.1
  have hc := cnt_nI hI.1.2.2.2.2.2.2.1
  refine lv_bipush (v := 8) hx hb dX10_firstFreeSlot_0 (by decide) ?_
  refine lv_istore_n (lv' := [(2, .int 8), (0, .ref (L 0 0)), (1, .ref (L 22 n.toNatClampNeg))]) hx hb dX10_firstFreeSlot_2 rfl hl (by decide) rfl (fun ls hl => ?_)
  obtain ⟨T1, hT1⟩ : ∃ z, z = c_free σ tf hf n := ⟨_, rfl⟩
  have l1 : ∀ (g h : Nat), (h + g = 18) → (c_frH σ tf hf n g h = T1) → ∀ (ls : Array Slot), lv_has ls 6 [(0, .ref (L 0 0)), (1, .ref (L 22 n.toNatClampNeg)), (2, .int (nI h))] → W pg l ev { frames := 4, cells := 0, slots := 0, locals := 95 } s mi [.ref (L 0 0), .ref (L 22 n.toNatClampNeg)].toArray bel mth cd s.heap [] 0 0 (QR bel s [.ref (L 0 0), .ref (L 22 n.toNatClampNeg)].toArray (some (.int (oI (c_free σ tf hf n))))) (F0 mi 3 ls []) := by
    intro g
    induction g with
    | zero =>
      intro h hk1 hi1 ls hl
      refine lv_iload_n hx hb dX10_firstFreeSlot_3 rfl (lv_at hl 2 rfl) ?_
      refine lv_bipush (v := 18) hx hb dX10_firstFreeSlot_4 (by decide) ?_
      refine lv_icmp_ge (tgt := 68) hx hb dX10_firstFreeSlot_6 (by decide) (fun c1 => ?_) (fun c1 => absurd (show nI 18 ≤ _ from nI_le (by omega) (by omega)) c1)
      refine lv_iconst (v := (-1)) hx hb dX10_firstFreeSlot_68 (by decide) ?_
      exact cr_ri hx hb hr hlocks (by simp only [c_frH] at hi1; (have hf : c_free σ tf hf n = none := hT1.symm.trans hi1.symm); rw [hf]; rfl) dX10_firstFreeSlot_69
    | succ g ih1 =>
      intro h hk1 hi1 ls hl
      refine lv_iload_n hx hb dX10_firstFreeSlot_3 rfl (lv_at hl 2 rfl) ?_
      refine lv_bipush (v := 18) hx hb dX10_firstFreeSlot_4 (by decide) ?_
      refine lv_icmp_ge (tgt := 68) hx hb dX10_firstFreeSlot_6 (by decide) (fun c2 => absurd c2 (show ¬ nI 18 ≤ _ from nI_ge (by omega) (by omega))) (fun c2 => ?_)
      refine lv_iconst (v := 0) hx hb dX10_firstFreeSlot_9 (by decide) ?_
      refine lv_istore_n (lv' := [(3, .int 0), (0, .ref (L 0 0)), (1, .ref (L 22 n.toNatClampNeg)), (2, .int (nI h))]) hx hb dX10_firstFreeSlot_10 rfl hl (by decide) rfl (fun ls hl => ?_)
      obtain ⟨T2, hT2⟩ : ∃ z, z = c_frW σ tf hf n h 4 0 := ⟨_, rfl⟩
      have l2 : ∀ (q w : Nat), (w + q = 4) → (c_frW σ tf hf n h q w = T2) → ∀ (ls : Array Slot), lv_has ls 6 [(0, .ref (L 0 0)), (1, .ref (L 22 n.toNatClampNeg)), (2, .int (nI h)), (3, .int (nI w))] → W pg l ev { frames := 4, cells := 0, slots := 0, locals := 95 } s mi [.ref (L 0 0), .ref (L 22 n.toNatClampNeg)].toArray bel mth cd s.heap [] 0 0 (QR bel s [.ref (L 0 0), .ref (L 22 n.toNatClampNeg)].toArray (some (.int (oI (c_free σ tf hf n))))) (F0 mi 11 ls []) := by
        intro q
        induction q with
        | zero =>
          intro w hk2 hi2 ls hl
          simp only [c_frW] at hi2
          refine lv_iload_n hx hb dX10_firstFreeSlot_11 rfl (lv_at hl 3 rfl) ?_
          refine lv_iconst (v := 4) hx hb dX10_firstFreeSlot_12 (by decide) ?_
          refine lv_icmp_ge (tgt := 62) hx hb dX10_firstFreeSlot_13 (by decide) (fun c3 => ?_) (fun c3 => absurd (show nI 4 ≤ _ from nI_le (by omega) (by omega)) c3)
          refine lv_iinc (v := nI (h + 1)) (lv' := [(2, .int (nI (h + 1))), (0, .ref (L 0 0)), (1, .ref (L 22 n.toNatClampNeg)), (3, .int (nI w))]) hx hb dX10_firstFreeSlot_62 hl (k := 2) rfl (nI_1 h) (by decide) rfl (fun ls hl => ?_)
          refine lv_goto (tgt := 3) hx hb dX10_firstFreeSlot_65 (by decide) ?_
          exact ih1 (h + 1) (by omega) (by rw [c_frH, ← hT2, ← hi2] at hi1; exact hi1) _ (lv_sub hl [1, 2, 0] rfl)
        | succ q ih2 =>
          intro w hk2 hi2 ls hl
          refine lv_iload_n hx hb dX10_firstFreeSlot_11 rfl (lv_at hl 3 rfl) ?_
          refine lv_iconst (v := 4) hx hb dX10_firstFreeSlot_12 (by decide) ?_
          refine lv_icmp_ge (tgt := 62) hx hb dX10_firstFreeSlot_13 (by decide) (fun c4 => absurd c4 (show ¬ nI 4 ≤ _ from nI_ge (by omega) (by omega))) (fun c4 => ?_)
          refine lv_iconst (v := 0) hx hb dX10_firstFreeSlot_16 (by decide) ?_
          refine lv_istore (lv' := [(4, .int 0), (0, .ref (L 0 0)), (1, .ref (L 22 n.toNatClampNeg)), (2, .int (nI h)), (3, .int (nI w))]) hx hb dX10_firstFreeSlot_17 hl (by decide) rfl (fun ls hl => ?_)
          obtain ⟨T3, hT3⟩ : ∃ z, z = c_frR σ tf hf n h w (nn σ 28) 0 := ⟨_, rfl⟩
          have l3 : ∀ (f r : Nat), (r + f = nn σ 28) → (c_frR σ tf hf n h w f r = T3) → ∀ (ls : Array Slot), lv_has ls 6 [(0, .ref (L 0 0)), (1, .ref (L 22 n.toNatClampNeg)), (2, .int (nI h)), (3, .int (nI w)), (4, .int (nI r))] → W pg l ev { frames := 4, cells := 0, slots := 0, locals := 95 } s mi [.ref (L 0 0), .ref (L 22 n.toNatClampNeg)].toArray bel mth cd s.heap [] 0 0 (QR bel s [.ref (L 0 0), .ref (L 22 n.toNatClampNeg)].toArray (some (.int (oI (c_free σ tf hf n))))) (F0 mi 19 ls []) := by
            intro f
            induction f with
            | zero =>
              intro r hk3 hi3 ls hl
              simp only [c_frR] at hi3
              refine lv_iload hx hb dX10_firstFreeSlot_19 (lv_at hl 4 rfl) ?_
              refine lv_aload_n hx hb dX10_firstFreeSlot_21 rfl (lv_at hl 0 rfl) ?_
              refine rd_get (k := 2) (v := .int (σ 28 0)) hx hb hown hu hE ok11 (cd_reg hC) (by decide) u139 (fun _ h => h) rfl dX10_firstFreeSlot_22 ?_
              refine lv_icmp_ge (tgt := 56) hx hb dX10_firstFreeSlot_25 (by decide) (fun c5 => ?_) (fun c5 => absurd (by rw [hc]; exact nI_le (by omega) (by omega)) c5)
              refine lv_iinc (v := nI (w + 1)) (lv' := [(3, .int (nI (w + 1))), (0, .ref (L 0 0)), (1, .ref (L 22 n.toNatClampNeg)), (2, .int (nI h)), (4, .int (nI r))]) hx hb dX10_firstFreeSlot_56 hl (k := 3) rfl (nI_1 w) (by decide) rfl (fun ls hl => ?_)
              refine lv_goto (tgt := 11) hx hb dX10_firstFreeSlot_59 (by decide) ?_
              exact ih2 (w + 1) (by omega) (by rw [c_frW, ← hT3, ← hi3] at hi2; exact hi2) _ (lv_sub hl [1, 2, 3, 0] rfl)
            | succ f ih3 =>
              intro r hk3 hi3 ls hl
              refine lv_iload hx hb dX10_firstFreeSlot_19 (lv_at hl 4 rfl) ?_
              refine lv_aload_n hx hb dX10_firstFreeSlot_21 rfl (lv_at hl 0 rfl) ?_
              refine rd_get (k := 2) (v := .int (σ 28 0)) hx hb hown hu hE ok11 (cd_reg hC) (by decide) u139 (fun _ h => h) rfl dX10_firstFreeSlot_22 ?_
              refine lv_icmp_ge (tgt := 56) hx hb dX10_firstFreeSlot_25 (by decide) (fun c6 => absurd c6 (by rw [hc]; exact nI_ge (by omega) (by omega))) (fun c6 => ?_)
              refine lv_iload_n hx hb dX10_firstFreeSlot_28 rfl (lv_at hl 2 rfl) ?_
              refine lv_iload_n hx hb dX10_firstFreeSlot_29 rfl (lv_at hl 3 rfl) ?_
              refine lv_iload hx hb dX10_firstFreeSlot_30 (lv_at hl 4 rfl) ?_
              refine cr_S (As := [.int (nI h), .int (nI w), .int (nI r)]) (rest := []) hx hb hml hown hu hE (x_slotOf l E (nI h) (nI w) (nI r)) kX10_slotOf u640 (trivial) ⟨Nat.le_of_ble_eq_true rfl, Nat.le_of_ble_eq_true rfl⟩ rfl hl.1 rfl (Nat.le_of_ble_eq_true rfl) ⟨Nat.le_of_ble_eq_true rfl, Nat.le_of_ble_eq_true rfl⟩ dX10_firstFreeSlot_32 ?_
              refine lv_istore (lv' := [(5, .int ((nI h) * 100 + (nI w) * 10 + (nI r))), (0, .ref (L 0 0)), (1, .ref (L 22 n.toNatClampNeg)), (2, .int (nI h)), (3, .int (nI w)), (4, .int (nI r))]) hx hb dX10_firstFreeSlot_35 hl (by decide) rfl (fun ls hl => ?_)
              refine lv_aload_n hx hb dX10_firstFreeSlot_37 rfl (lv_at hl 1 rfl) ?_
              refine lv_aload_n hx hb dX10_firstFreeSlot_38 rfl (lv_at hl 2 rfl) ?_
              refine lv_iload hx hb dX10_firstFreeSlot_39 (lv_at hl 0 rfl) ?_
              refine cr_V (As := [.ref (L 22 n.toNatClampNeg), .int ((nI h) * 100 + (nI w) * 10 + (nI r))]) (rest := []) hx hb hml hown hu hE (x_barS l E A σ L tf hf n ((nI h) * 100 + (nI w) * 10 + (nI r))) kX10_barToSlot u608 (cd_reg hC) rfl rfl (⟨hC, hI, hPl, hX⟩) ⟨Nat.le_of_ble_eq_true rfl, Nat.le_of_ble_eq_true rfl⟩ rfl hl.1 rfl (Nat.le_of_ble_eq_true rfl) ⟨Nat.le_of_ble_eq_true rfl, Nat.le_of_ble_eq_true rfl⟩ dX10_firstFreeSlot_41 ?_
              refine lv_if_ne (tgt := 50) hx hb dX10_firstFreeSlot_44 (by decide) (fun c7 => ?_) (fun c7 => ?_)
              · refine lv_iinc (v := nI (r + 1)) (lv' := [(4, .int (nI (r + 1))), (5, .int ((nI h) * 100 + (nI w) * 10 + (nI r))), (0, .ref (L 0 0)), (1, .ref (L 22 n.toNatClampNeg)), (2, .int (nI h)), (3, .int (nI w))]) hx hb dX10_firstFreeSlot_50 hl (k := 5) rfl (nI_1 r) (by decide) rfl (fun ls hl => ?_)
                refine lv_goto (tgt := 19) hx hb dX10_firstFreeSlot_53 (by decide) ?_
                exact ih3 (r + 1) (by omega) (by simp only [c_frR, decide_eq_false c7, Bool.not_true, Bool.not_false, Bool.and_true, Bool.true_and, Bool.and_false, Bool.false_and, Bool.or_true, Bool.true_or, Bool.or_false, Bool.false_or, Bool.and_self, Bool.or_self, eq_self, if_true, Bool.false_eq_true, if_false] at hi3; exact hi3) _ (lv_sub hl [2, 3, 4, 5, 0] rfl)
              · refine lv_iload hx hb dX10_firstFreeSlot_47 (lv_at hl 0 rfl) ?_
                exact cr_ri hx hb hr hlocks (by simp only [c_frR, decide_eq_true c7, Bool.not_true, Bool.not_false, Bool.and_true, Bool.true_and, Bool.and_false, Bool.false_and, Bool.or_true, Bool.true_or, Bool.or_false, Bool.false_or, Bool.and_self, Bool.or_self, eq_self, if_true, Bool.false_eq_true, if_false] at hi3; rw [c_frW, ← hT3, ← hi3] at hi2; rw [c_frH, ← hT2, ← hi2] at hi1; (have hf : c_free σ tf hf n = _ := hT1.symm.trans hi1.symm); rw [hf]; rfl) dX10_firstFreeSlot_49
          exact l3 (nn σ 28) 0 (by omega) hT3.symm _ (lv_sub hl [1, 2, 3, 4, 0] rfl)
      exact l2 4 0 rfl hT2.symm _ (lv_sub hl [1, 2, 3, 0] rfl)
  exact l1 10 8 rfl hT1.symm _ (lv_sub hl [1, 2, 0] rfl)
