set_option maxHeartbeats 1000000 in
set_option maxRecDepth 20000 in
theorem x_firstR (l : Launch) (E : EV) (A : Nat → Prop) (σ : St) (L : Nat → Nat → Nat) (n : Int32) : Cr l E yX10_firstRipeDay cX10_firstRipeDay 4 (some .int) 5 111 [.ref (L 0 0), .ref (L 22 n.toNatClampNeg)] (fun H => Cd E A σ L H ∧ InvM σ ∧ okN σ n ∧ InvL σ) (some (.int (m_ripe σ n))) := by
  refine Cr.of (by decide +kernel) (Nat.le_of_ble_eq_true rfl) (fun pg ev s mi bel mth cd hx hb hr hml hown hu hlocks hE hP ls hl => ?_)
  have hl : lv_has ls 4 [(0, .ref (L 0 0)), (1, .ref (L 22 n.toNatClampNeg))] := hl
  obtain ⟨hC, hI, hX, hL⟩ := hP
  have hpo := pos_ok hI hX
  have hp1 := bnd_nI hpo
  have hp2 := bnd_le (N := 20000) hpo
  refine lv_iconst (v := 0) hx hb dX10_firstRipeDay_0 (by decide) ?_
  refine lv_istore_n (lv' := [(2, .int 0), (0, .ref (L 0 0)), (1, .ref (L 22 n.toNatClampNeg))]) hx hb dX10_firstRipeDay_1 rfl hl (by decide) rfl (fun ls hl => ?_)
  refine lv_aload_n hx hb dX10_firstRipeDay_2 rfl (lv_at hl 2 rfl) ?_
  refine rd_get (k := 3) (v := .int (gA σ 19 n)) hx hb hown hu hE ok7 (cd_not hC (okN_lt hX)) (by decide) u456 (fun _ h => h) rfl dX10_firstRipeDay_3 ?_
  rw [show gA σ 19 n = nI (gA σ 19 n).toNatClampNeg from hp1]
  refine lv_istore_n (lv' := [(3, .int (nI (gA σ 19 n).toNatClampNeg)), (2, .int 0), (0, .ref (L 0 0)), (1, .ref (L 22 n.toNatClampNeg))]) hx hb dX10_firstRipeDay_6 rfl hl (by decide) rfl (fun ls hl => ?_)
  obtain ⟨T, hT⟩ : ∃ z, z = m_ripe σ n := ⟨_, rfl⟩
  have lo : ∀ (f d : Nat) (has : Int32), (d + f = 20001) → (m_riL σ n f d has = T) → ∀ (ls : Array Slot), lv_has ls 4 [(0, .ref (L 0 0)), (1, .ref (L 22 n.toNatClampNeg)), (2, .int has), (3, .int (nI d))] → W pg l ev { frames := 5, cells := 0, slots := 0, locals := 111 } s mi [.ref (L 0 0), .ref (L 22 n.toNatClampNeg)].toArray bel mth cd s.heap [] 0 0 (QR bel s [.ref (L 0 0), .ref (L 22 n.toNatClampNeg)].toArray (some (.int (m_ripe σ n)))) (F0 mi 7 ls []) := by
    intro f
    induction f with
    | zero =>
      intro d has hk hi ls hl
      refine lv_iload_n hx hb dX10_firstRipeDay_7 rfl (lv_at hl 3 rfl) ?_
      refine lv_sipush (v := 20000) hx hb dX10_firstRipeDay_8 (by decide) ?_
      refine lv_icmp_gt (tgt := 54) hx hb dX10_firstRipeDay_11 (by decide) (fun c1 => ?_) (fun c1 => absurd (by rw [i_lt, nI_toInt (by omega)]; have e0 : (20000 : Int32).toInt = 20000 := rfl; omega) c1)
      refine lv_iconst (v := (-1)) hx hb dX10_firstRipeDay_54 (by decide) ?_
      exact cr_ri hx hb hr hlocks (by simp only [m_riL] at hi; rw [← hT, ← hi]) dX10_firstRipeDay_55
    | succ f ih =>
      intro d has hk hi ls hl
      refine lv_iload_n hx hb dX10_firstRipeDay_7 rfl (lv_at hl 3 rfl) ?_
      refine lv_sipush (v := 20000) hx hb dX10_firstRipeDay_8 (by decide) ?_
      refine lv_icmp_gt (tgt := 54) hx hb dX10_firstRipeDay_11 (by decide) (fun c2 => absurd c2 (by rw [i_lt, nI_toInt (by omega)]; have e0 : (20000 : Int32).toInt = 20000 := rfl; omega)) (fun c2 => ?_)
      refine lv_iload_n hx hb dX10_firstRipeDay_14 rfl (lv_at hl 2 rfl) ?_
      refine lv_aload_n hx hb dX10_firstRipeDay_15 rfl (lv_at hl 0 rfl) ?_
      refine lv_aload_n hx hb dX10_firstRipeDay_16 rfl (lv_at hl 1 rfl) ?_
      refine lv_iload_n hx hb dX10_firstRipeDay_17 rfl (lv_at hl 3 rfl) ?_
      refine cr_V (As := [.ref (L 22 n.toNatClampNeg), .int (nI d)]) (rest := [.int has]) hx hb hml hown hu hE (x_hang l E A σ L n (nI d)) kX10_hangingAsked u521 (cd_reg hC) rfl rfl (⟨hC, hI, hX, hL⟩) ⟨Nat.le_of_ble_eq_true rfl, Nat.le_of_ble_eq_true rfl⟩ rfl hl.1 rfl (Nat.le_of_ble_eq_true rfl) ⟨Nat.le_of_ble_eq_true rfl, Nat.le_of_ble_eq_true rfl⟩ dX10_firstRipeDay_18 ?_
      refine lv_icmp_lt (tgt := 26) hx hb dX10_firstRipeDay_21 (by decide) (fun c3 => ?_) (fun c3 => ?_)
      · refine lv_iload_n hx hb dX10_firstRipeDay_26 rfl (lv_at hl 3 rfl) ?_
        refine lv_aload_n hx hb dX10_firstRipeDay_27 rfl (lv_at hl 1 rfl) ?_
        refine rd_get (k := 3) (v := .int (gA σ 19 n)) hx hb hown hu hE ok7 (cd_not hC (okN_lt hX)) (by decide) u456 (fun _ h => h) rfl dX10_firstRipeDay_28 ?_
        refine lv_icmp_le (tgt := 48) hx hb dX10_firstRipeDay_31 (by decide) (fun c4 => ?_) (fun c4 => ?_)
        · refine lv_iinc (v := nI (d + 1)) (lv' := [(3, .int (nI (d + 1))), (0, .ref (L 0 0)), (1, .ref (L 22 n.toNatClampNeg)), (2, .int has)]) hx hb dX10_firstRipeDay_48 hl (k := 3) rfl (nI_1 d) (by decide) rfl (fun ls hl => ?_)
          refine lv_goto (tgt := 7) hx hb dX10_firstRipeDay_51 (by decide) ?_
          exact ih (d + 1) _ (by omega) (by simp only [m_riL, decide_eq_true c3, decide_eq_false (Int32.not_lt.mpr c4), Bool.not_true, Bool.not_false, Bool.and_true, Bool.true_and, Bool.and_false, Bool.false_and, Bool.or_true, Bool.true_or, Bool.or_false, Bool.false_or, Bool.and_self, Bool.or_self, eq_self, if_true, Bool.false_eq_true, if_false] at hi; exact hi) _ (lv_sub hl [1, 2, 3, 0] rfl)
        · refine lv_aload_n hx hb dX10_firstRipeDay_34 rfl (lv_at hl 0 rfl) ?_
          refine rd_get (k := 4) (v := .ref (L 2 0)) hx hb hown hu hE ok11 (cd_reg hC) (by decide) u141 (fun _ h => h) rfl dX10_firstRipeDay_35 ?_
          refine lv_iload_n hx hb dX10_firstRipeDay_38 rfl (lv_at hl 3 rfl) ?_
          refine cr_V (As := [.int (nI d)]) (rest := []) hx hb hml hown hu hE (x_feast l E A σ L (nI d)) kX0_isFeast u359 (cd_cal hC) rfl rfl (⟨hC, hI, okD_nI (by omega)⟩) ⟨Nat.le_of_ble_eq_true rfl, Nat.le_of_ble_eq_true rfl⟩ rfl hl.1 rfl (Nat.le_of_ble_eq_true rfl) ⟨Nat.le_of_ble_eq_true rfl, Nat.le_of_ble_eq_true rfl⟩ dX10_firstRipeDay_39 ?_
          refine onB (fun b5 => ?_) (fun b5 => ?_)
          · replace b5 := not_t b5
            refine lv_if_ne (tgt := 48) hx hb dX10_firstRipeDay_42 (by decide) (fun _ => ?_) (fun c6 => absurd c6 (by decide))
            refine lv_iinc (v := nI (d + 1)) (lv' := [(3, .int (nI (d + 1))), (0, .ref (L 0 0)), (1, .ref (L 22 n.toNatClampNeg)), (2, .int has)]) hx hb dX10_firstRipeDay_48 hl (k := 3) rfl (nI_1 d) (by decide) rfl (fun ls hl => ?_)
            refine lv_goto (tgt := 7) hx hb dX10_firstRipeDay_51 (by decide) ?_
            exact ih (d + 1) _ (by omega) (by simp only [m_riL, decide_eq_true c3, decide_eq_true (Int32.not_le.mp c4), b5, Bool.not_true, Bool.not_false, Bool.and_true, Bool.true_and, Bool.and_false, Bool.false_and, Bool.or_true, Bool.true_or, Bool.or_false, Bool.false_or, Bool.and_self, Bool.or_self, eq_self, if_true, Bool.false_eq_true, if_false] at hi; exact hi) _ (lv_sub hl [1, 2, 3, 0] rfl)
          · replace b5 := not_f b5
            refine lv_if_ne (tgt := 48) hx hb dX10_firstRipeDay_42 (by decide) (fun c7 => absurd c7 (by decide)) (fun _ => ?_)
            refine lv_iinc (v := has + 1) (lv' := [(2, .int (has + 1)), (0, .ref (L 0 0)), (1, .ref (L 22 n.toNatClampNeg)), (3, .int (nI d))]) hx hb dX10_firstRipeDay_45 hl (k := 2) rfl rfl (by decide) rfl (fun ls hl => ?_)
            refine lv_iinc (v := nI (d + 1)) (lv' := [(3, .int (nI (d + 1))), (2, .int (has + 1)), (0, .ref (L 0 0)), (1, .ref (L 22 n.toNatClampNeg))]) hx hb dX10_firstRipeDay_48 hl (k := 3) rfl (nI_1 d) (by decide) rfl (fun ls hl => ?_)
            refine lv_goto (tgt := 7) hx hb dX10_firstRipeDay_51 (by decide) ?_
            exact ih (d + 1) _ (by omega) (by simp only [m_riL, decide_eq_true c3, decide_eq_true (Int32.not_le.mp c4), b5, Bool.not_true, Bool.not_false, Bool.and_true, Bool.true_and, Bool.and_false, Bool.false_and, Bool.or_true, Bool.true_or, Bool.or_false, Bool.false_or, Bool.and_self, Bool.or_self, eq_self, if_true, Bool.false_eq_true, if_false] at hi; exact hi) _ (lv_sub hl [2, 3, 1, 0] rfl)
      · refine lv_iload_n hx hb dX10_firstRipeDay_24 rfl (lv_at hl 3 rfl) ?_
        exact cr_ri hx hb hr hlocks (by simp only [m_riL, decide_eq_false c3, Bool.not_true, Bool.not_false, Bool.and_true, Bool.true_and, Bool.and_false, Bool.false_and, Bool.or_true, Bool.true_or, Bool.or_false, Bool.false_or, Bool.and_self, Bool.or_self, eq_self, if_true, Bool.false_eq_true, if_false] at hi; rw [← hT, ← hi]) dX10_firstRipeDay_25
  exact lo (20001 - (gA σ 19 n).toNatClampNeg) (gA σ 19 n).toNatClampNeg 0 (by omega) hT.symm _ (lv_sub hl [2, 3, 1, 0] rfl)
set_option maxHeartbeats 1000000 in
set_option maxRecDepth 20000 in
theorem x_ripe (l : Launch) (E : EV) (A : Nat → Prop) (σ : St) (L : Nat → Nat → Nat) (n : Int32) : Cr l E yX10_ripe cX10_ripe 3 (some .int) 6 134 [.ref (L 0 0), .int n] (fun H => Cd E A σ L H ∧ InvM σ ∧ InvL σ) (some (.int (m_ripeA σ n))) := by
  refine Cr.of (by decide +kernel) (Nat.le_of_ble_eq_true rfl) (fun pg ev s mi bel mth cd hx hb hr hml hown hu hlocks hE hP ls hl => ?_)
  have hl : lv_has ls 3 [(0, .ref (L 0 0)), (1, .int n)] := hl
  obtain ⟨hC, hI, hL⟩ := hP
  refine lv_aload_n hx hb dX10_ripe_0 rfl (lv_at hl 0 rfl) ?_
  refine lv_iload_n hx hb dX10_ripe_1 rfl (lv_at hl 1 rfl) ?_
  refine cr_V (As := [.int n]) (rest := []) hx hb hml hown hu hE (x_notAt l E A σ L n) kX10_noticeAt u487 (cd_reg hC) rfl rfl (⟨hC, hI⟩) ⟨Nat.le_of_ble_eq_true rfl, Nat.le_of_ble_eq_true rfl⟩ rfl hl.1 rfl (Nat.le_of_ble_eq_true rfl) ⟨Nat.le_of_ble_eq_true rfl, Nat.le_of_ble_eq_true rfl⟩ dX10_ripe_2 ?_
  refine onO (fun b1 => ?_) (fun b1 => ?_)
  · refine lv_astore_n (lv' := [(2, .ref (L 22 n.toNatClampNeg)), (0, .ref (L 0 0)), (1, .int n)]) hx hb dX10_ripe_5 rfl hl (by decide) rfl (fun ls hl => ?_)
    refine lv_aload_n hx hb dX10_ripe_6 rfl (lv_at hl 0 rfl) ?_
    refine lv_ifnonnull (tgt := 12) hx hb dX10_ripe_7 (by decide) ?_
    refine lv_aload_n hx hb dX10_ripe_12 rfl (lv_at hl 1 rfl) ?_
    refine lv_aload_n hx hb dX10_ripe_13 rfl (lv_at hl 0 rfl) ?_
    refine cr_V (As := [.ref (L 22 n.toNatClampNeg)]) (rest := []) hx hb hml hown hu hE (x_firstR l E A σ L n) kX10_firstRipeDay u517 (cd_reg hC) rfl rfl (⟨hC, hI, (isN_ok hI b1), hL⟩) ⟨Nat.le_of_ble_eq_true rfl, Nat.le_of_ble_eq_true rfl⟩ rfl hl.1 rfl (Nat.le_of_ble_eq_true rfl) ⟨Nat.le_of_ble_eq_true rfl, Nat.le_of_ble_eq_true rfl⟩ dX10_ripe_14 ?_
    exact cr_ri hx hb hr hlocks (by simp only [m_ripeA, b1, Bool.not_true, Bool.not_false, Bool.and_true, Bool.true_and, Bool.and_false, Bool.false_and, Bool.or_true, Bool.true_or, Bool.or_false, Bool.false_or, Bool.and_self, Bool.or_self, eq_self, if_true, Bool.false_eq_true, if_false]) dX10_ripe_17
  · refine lv_astore_nN (lv' := [(2, .null), (0, .ref (L 0 0)), (1, .int n)]) hx hb dX10_ripe_5 rfl hl (by decide) rfl (fun ls hl => ?_)
    refine lv_aload_nN hx hb dX10_ripe_6 rfl (lv_at hl 0 rfl) ?_
    refine lv_ifnonnullN hx hb dX10_ripe_7 ?_
    refine lv_iconst (v := (-1)) hx hb dX10_ripe_10 (by decide) ?_
    exact cr_ri hx hb hr hlocks (by simp only [m_ripeA, b1, Bool.not_true, Bool.not_false, Bool.and_true, Bool.true_and, Bool.and_false, Bool.false_and, Bool.or_true, Bool.true_or, Bool.or_false, Bool.false_or, Bool.and_self, Bool.or_self, eq_self, if_true, Bool.false_eq_true, if_false]) dX10_ripe_11
