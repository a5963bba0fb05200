set_option maxHeartbeats 1000000 in
set_option maxRecDepth 20000 in
theorem x_tell (l : Launch) (E : EV) (A : Nat → Prop) (H0 : Heap) (σ : St) (L : Nat → Nat → Nat) (a : Nat) (fs : List Value) : Ct l E yX5_tell cX5_tell 2 none 7 191 1 400 A [.ref (L 4 0), .ref a] (fun H => H = H0 ∧ Cd E A σ L H ∧ InvM σ ∧ InvP σ ∧ lc σ 0 < 200 ∧ ob E a 5 fs H ∧ ∀ k i, cv σ k i → L k i ≠ a) (fun v H => v = none ∧ grR E A σ L 0 a H0 H) := by
  refine Ct.of (by decide +kernel) (Nat.le_of_ble_eq_true rfl) (fun pg ev s mi bel mth cd hx hb hr hml hown hu hlocks hnm hE hP hA hZ ls hl => ?_)
  have hl : lv_has ls 2 [(0, .ref (L 4 0)), (1, .ref a)] := hl
  have hS : va_S A s.heap s.heap [] := va_S.rf
  obtain ⟨h0, hC, hI, hK, hn, ho, hfr⟩ := hP
  refine lv_aload_n hx hb dX5_tell_0 rfl (lv_at hl 0 rfl) ?_
  refine rd_get (k := 0) (v := .ref (L 9 0)) hx hb hown hu hE ok6 (cd_lb hC) (by decide) u115 (fun _ h => h) rfl dX5_tell_1 ?_
  refine lv_aload_n hx hb dX5_tell_4 rfl (lv_at hl 1 rfl) ?_
  refine ct_V (As := [.ref a]) (rest := []) hx hb hml hown hu hE hZ hS (fun _ h => h) (fun q h => hA q (Nat.le_trans hS.1 h)) (x_add l E A H0 σ L 20 2 0 a fs) kJx4a65c_add_9ea2d u198 ((cd_lex hC (j := 0) (by omega)).choose_spec) rfl rfl (⟨h0, hC, hI, hK, Or.inl ⟨rfl, rfl, rfl⟩, (by omega), hn, (by rw [show kci 20 = 5 from rfl]; exact ho), hfr⟩) ⟨Nat.le_of_ble_eq_true rfl, Nat.le_of_ble_eq_true rfl⟩ rfl hl.1 rfl (Nat.le_of_ble_eq_true rfl) ⟨Nat.le_of_ble_eq_true rfl, Nat.le_of_ble_eq_true rfl⟩ dX5_tell_5 (fun v1 H1 locs1 hR hS hz hk => ?_)
  obtain ⟨rfl, hg⟩ := hR
  refine lv_pop hx hb dX5_tell_8 rfl ?_
  exact ct_rv hx hb hr hlocks hS (⟨rfl, hg⟩) (Nat.le_of_ble_eq_true rfl) (Nat.le_of_ble_eq_true rfl) dX5_tell_9
set_option maxHeartbeats 1000000 in
set_option maxRecDepth 20000 in
theorem x_lcb (l : Launch) (E : EV) (w n : Int32) : Cr l E yX4_canBe cX4_canBe 2 (some .boolean) 0 0 [.int w, .int n] (fun H => True) (some (.int (bI (c_lcb w n)))) := by
  refine Cr.of (by decide +kernel) (Nat.le_of_ble_eq_true rfl) (fun pg ev s mi bel mth cd hx hb hr hml hown hu hlocks hE hP ls hl => ?_)
  have hl : lv_has ls 2 [(0, .int w), (1, .int n)] := hl
  refine lv_iload_n hx hb dX4_canBe_0 rfl (lv_at hl 0 rfl) ?_
  refine lv_if_lt (tgt := 83) hx hb dX4_canBe_1 (by decide) (fun c1 => ?_) (fun c1 => ?_)
  · refine lv_iconst (v := 0) hx hb dX4_canBe_83 (by decide) ?_
    exact cr_rz hx hb hr hlocks (by simp only [c_lcb, decide_eq_true c1, Bool.not_true, Bool.not_false, Bool.and_true, Bool.true_and, Bool.and_false, Bool.false_and, Bool.or_true, Bool.true_or, Bool.or_false, Bool.false_or, Bool.and_self, Bool.or_self, eq_self, if_true, Bool.false_eq_true, if_false] <;> rfl) (rfl) dX4_canBe_84
  · refine lv_iload_n hx hb dX4_canBe_4 rfl (lv_at hl 0 rfl) ?_
    refine lv_ldc (v := 1000000) hx hb hown (hu _ u81) dX4_canBe_5 ?_
    refine lv_idiv hx hb dX4_canBe_7 (by decide) ?_
    refine lv_bipush (v := 30) hx hb dX4_canBe_8 (by decide) ?_
    refine lv_icmp_gt (tgt := 83) hx hb dX4_canBe_10 (by decide) (fun c2 => ?_) (fun c2 => ?_)
    · refine lv_iconst (v := 0) hx hb dX4_canBe_83 (by decide) ?_
      exact cr_rz hx hb hr hlocks (by simp only [c_lcb, decide_eq_false c1, decide_eq_true c2, Bool.not_true, Bool.not_false, Bool.and_true, Bool.true_and, Bool.and_false, Bool.false_and, Bool.or_true, Bool.true_or, Bool.or_false, Bool.false_or, Bool.and_self, Bool.or_self, eq_self, if_true, Bool.false_eq_true, if_false] <;> rfl) (rfl) dX4_canBe_84
    · refine lv_iload_n hx hb dX4_canBe_13 rfl (lv_at hl 0 rfl) ?_
      refine lv_ldc (v := 100000) hx hb hown (hu _ u82) dX4_canBe_14 ?_
      refine lv_idiv hx hb dX4_canBe_16 (by decide) ?_
      refine lv_bipush (v := 10) hx hb dX4_canBe_17 (by decide) ?_
      refine lv_irem hx hb dX4_canBe_19 (by decide) ?_
      refine lv_iconst (v := 3) hx hb dX4_canBe_20 (by decide) ?_
      refine lv_icmp_gt (tgt := 83) hx hb dX4_canBe_21 (by decide) (fun c3 => ?_) (fun c3 => ?_)
      · refine lv_iconst (v := 0) hx hb dX4_canBe_83 (by decide) ?_
        exact cr_rz hx hb hr hlocks (by simp only [c_lcb, decide_eq_false c1, decide_eq_false c2, decide_eq_true c3, Bool.not_true, Bool.not_false, Bool.and_true, Bool.true_and, Bool.and_false, Bool.false_and, Bool.or_true, Bool.true_or, Bool.or_false, Bool.false_or, Bool.and_self, Bool.or_self, eq_self, if_true, Bool.false_eq_true, if_false] <;> rfl) (rfl) dX4_canBe_84
      · refine lv_iload_n hx hb dX4_canBe_24 rfl (lv_at hl 0 rfl) ?_
        refine lv_sipush (v := 10000) hx hb dX4_canBe_25 (by decide) ?_
        refine lv_idiv hx hb dX4_canBe_28 (by decide) ?_
        refine lv_bipush (v := 10) hx hb dX4_canBe_29 (by decide) ?_
        refine lv_irem hx hb dX4_canBe_31 (by decide) ?_
        refine lv_bipush (v := 7) hx hb dX4_canBe_32 (by decide) ?_
        refine lv_icmp_gt (tgt := 83) hx hb dX4_canBe_34 (by decide) (fun c4 => ?_) (fun c4 => ?_)
        · refine lv_iconst (v := 0) hx hb dX4_canBe_83 (by decide) ?_
          exact cr_rz hx hb hr hlocks (by simp only [c_lcb, decide_eq_false c1, decide_eq_false c2, decide_eq_false c3, decide_eq_true c4, Bool.not_true, Bool.not_false, Bool.and_true, Bool.true_and, Bool.and_false, Bool.false_and, Bool.or_true, Bool.true_or, Bool.or_false, Bool.false_or, Bool.and_self, Bool.or_self, eq_self, if_true, Bool.false_eq_true, if_false] <;> rfl) (rfl) dX4_canBe_84
        · refine lv_iload_n hx hb dX4_canBe_37 rfl (lv_at hl 0 rfl) ?_
          refine lv_sipush (v := 1000) hx hb dX4_canBe_38 (by decide) ?_
          refine lv_idiv hx hb dX4_canBe_41 (by decide) ?_
          refine lv_bipush (v := 10) hx hb dX4_canBe_42 (by decide) ?_
          refine lv_irem hx hb dX4_canBe_44 (by decide) ?_
          refine lv_iconst (v := 2) hx hb dX4_canBe_45 (by decide) ?_
          refine lv_icmp_gt (tgt := 83) hx hb dX4_canBe_46 (by decide) (fun c5 => ?_) (fun c5 => ?_)
          · refine lv_iconst (v := 0) hx hb dX4_canBe_83 (by decide) ?_
            exact cr_rz hx hb hr hlocks (by simp only [c_lcb, decide_eq_false c1, decide_eq_false c2, decide_eq_false c3, decide_eq_false c4, decide_eq_true c5, Bool.not_true, Bool.not_false, Bool.and_true, Bool.true_and, Bool.and_false, Bool.false_and, Bool.or_true, Bool.true_or, Bool.or_false, Bool.false_or, Bool.and_self, Bool.or_self, eq_self, if_true, Bool.false_eq_true, if_false] <;> rfl) (rfl) dX4_canBe_84
          · refine lv_iload_n hx hb dX4_canBe_49 rfl (lv_at hl 0 rfl) ?_
            refine lv_sipush (v := 1000) hx hb dX4_canBe_50 (by decide) ?_
            refine lv_irem hx hb dX4_canBe_53 (by decide) ?_
            refine lv_iconst (v := 1) hx hb dX4_canBe_54 (by decide) ?_
            refine lv_icmp_lt (tgt := 83) hx hb dX4_canBe_55 (by decide) (fun c6 => ?_) (fun c6 => ?_)
            · refine lv_iconst (v := 0) hx hb dX4_canBe_83 (by decide) ?_
              exact cr_rz hx hb hr hlocks (by simp only [c_lcb, decide_eq_false c1, decide_eq_false c2, decide_eq_false c3, decide_eq_false c4, decide_eq_false c5, decide_eq_true c6, Bool.not_true, Bool.not_false, Bool.and_true, Bool.true_and, Bool.and_false, Bool.false_and, Bool.or_true, Bool.true_or, Bool.or_false, Bool.false_or, Bool.and_self, Bool.or_self, eq_self, if_true, Bool.false_eq_true, if_false] <;> rfl) (rfl) dX4_canBe_84
            · refine lv_iload_n hx hb dX4_canBe_58 rfl (lv_at hl 0 rfl) ?_
              refine lv_sipush (v := 1000) hx hb dX4_canBe_59 (by decide) ?_
              refine lv_irem hx hb dX4_canBe_62 (by decide) ?_
              refine lv_sipush (v := 400) hx hb dX4_canBe_63 (by decide) ?_
              refine lv_icmp_gt (tgt := 83) hx hb dX4_canBe_66 (by decide) (fun c7 => ?_) (fun c7 => ?_)
              · refine lv_iconst (v := 0) hx hb dX4_canBe_83 (by decide) ?_
                exact cr_rz hx hb hr hlocks (by simp only [c_lcb, decide_eq_false c1, decide_eq_false c2, decide_eq_false c3, decide_eq_false c4, decide_eq_false c5, decide_eq_false c6, decide_eq_true c7, Bool.not_true, Bool.not_false, Bool.and_true, Bool.true_and, Bool.and_false, Bool.false_and, Bool.or_true, Bool.true_or, Bool.or_false, Bool.false_or, Bool.and_self, Bool.or_self, eq_self, if_true, Bool.false_eq_true, if_false] <;> rfl) (rfl) dX4_canBe_84
              · refine lv_iload_n hx hb dX4_canBe_69 rfl (lv_at hl 1 rfl) ?_
                refine lv_if_lt (tgt := 83) hx hb dX4_canBe_70 (by decide) (fun c8 => ?_) (fun c8 => ?_)
                · refine lv_iconst (v := 0) hx hb dX4_canBe_83 (by decide) ?_
                  exact cr_rz hx hb hr hlocks (by simp only [c_lcb, decide_eq_false c1, decide_eq_false c2, decide_eq_false c3, decide_eq_false c4, decide_eq_false c5, decide_eq_false c6, decide_eq_false c7, decide_eq_true c8, Bool.not_true, Bool.not_false, Bool.and_true, Bool.true_and, Bool.and_false, Bool.false_and, Bool.or_true, Bool.true_or, Bool.or_false, Bool.false_or, Bool.and_self, Bool.or_self, eq_self, if_true, Bool.false_eq_true, if_false] <;> rfl) (rfl) dX4_canBe_84
                · refine lv_iload_n hx hb dX4_canBe_73 rfl (lv_at hl 1 rfl) ?_
                  refine lv_bipush (v := 30) hx hb dX4_canBe_74 (by decide) ?_
                  refine lv_icmp_gt (tgt := 83) hx hb dX4_canBe_76 (by decide) (fun c9 => ?_) (fun c9 => ?_)
                  · refine lv_iconst (v := 0) hx hb dX4_canBe_83 (by decide) ?_
                    exact cr_rz hx hb hr hlocks (by simp only [c_lcb, decide_eq_false c1, decide_eq_false c2, decide_eq_false c3, decide_eq_false c4, decide_eq_false c5, decide_eq_false c6, decide_eq_false c7, decide_eq_false c8, decide_eq_true c9, Bool.not_true, Bool.not_false, Bool.and_true, Bool.true_and, Bool.and_false, Bool.false_and, Bool.or_true, Bool.true_or, Bool.or_false, Bool.false_or, Bool.and_self, Bool.or_self, eq_self, if_true, Bool.false_eq_true, if_false] <;> rfl) (rfl) dX4_canBe_84
                  · refine lv_iconst (v := 1) hx hb dX4_canBe_79 (by decide) ?_
                    refine lv_goto (tgt := 84) hx hb dX4_canBe_80 (by decide) ?_
                    exact cr_rz hx hb hr hlocks (by simp only [c_lcb, decide_eq_false c1, decide_eq_false c2, decide_eq_false c3, decide_eq_false c4, decide_eq_false c5, decide_eq_false c6, decide_eq_false c7, decide_eq_false c8, decide_eq_false c9, Bool.not_true, Bool.not_false, Bool.and_true, Bool.true_and, Bool.and_false, Bool.false_and, Bool.or_true, Bool.true_or, Bool.or_false, Bool.false_or, Bool.and_self, Bool.or_self, eq_self, if_true, Bool.false_eq_true, if_false] <;> rfl) (rfl) dX4_canBe_84
set_option maxHeartbeats 1000000 in
set_option maxRecDepth 20000 in
theorem x_pcb (l : Launch) (E : EV) (w : Int32) : Cr l E yX9_canBe cX9_canBe 1 (some .boolean) 0 0 [.int w] (fun H => True) (some (.int (bI (c_pcb w)))) := by
  refine Cr.of (by decide +kernel) (Nat.le_of_ble_eq_true rfl) (fun pg ev s mi bel mth cd hx hb hr hml hown hu hlocks hE hP ls hl => ?_)
  have hl : lv_has ls 1 [(0, .int w)] := hl
  refine lv_iload_n hx hb dX9_canBe_0 rfl (lv_at hl 0 rfl) ?_
  refine lv_if_lt (tgt := 39) hx hb dX9_canBe_1 (by decide) (fun c1 => ?_) (fun c1 => ?_)
  · refine lv_iconst (v := 0) hx hb dX9_canBe_39 (by decide) ?_
    exact cr_rz hx hb hr hlocks (by simp only [c_pcb, decide_eq_true c1, Bool.not_true, Bool.not_false, Bool.and_true, Bool.true_and, Bool.and_false, Bool.false_and, Bool.or_true, Bool.true_or, Bool.or_false, Bool.false_or, Bool.and_self, Bool.or_self, eq_self, if_true, Bool.false_eq_true, if_false] <;> rfl) (rfl) dX9_canBe_40
  · refine lv_iload_n hx hb dX9_canBe_4 rfl (lv_at hl 0 rfl) ?_
    refine lv_ldc (v := 1000000) hx hb hown (hu _ u265) dX9_canBe_5 ?_
    refine lv_idiv hx hb dX9_canBe_7 (by decide) ?_
    refine lv_bipush (v := 6) hx hb dX9_canBe_8 (by decide) ?_
    refine lv_icmp_ge (tgt := 39) hx hb dX9_canBe_10 (by decide) (fun c2 => ?_) (fun c2 => ?_)
    · refine lv_iconst (v := 0) hx hb dX9_canBe_39 (by decide) ?_
      exact cr_rz hx hb hr hlocks (by simp only [c_pcb, decide_eq_false c1, decide_eq_false (Int32.not_lt.mpr c2), Bool.not_true, Bool.not_false, Bool.and_true, Bool.true_and, Bool.and_false, Bool.false_and, Bool.or_true, Bool.true_or, Bool.or_false, Bool.false_or, Bool.and_self, Bool.or_self, eq_self, if_true, Bool.false_eq_true, if_false] <;> rfl) (rfl) dX9_canBe_40
    · refine lv_iload_n hx hb dX9_canBe_13 rfl (lv_at hl 0 rfl) ?_
      refine lv_sipush (v := 10000) hx hb dX9_canBe_14 (by decide) ?_
      refine lv_idiv hx hb dX9_canBe_17 (by decide) ?_
      refine lv_bipush (v := 100) hx hb dX9_canBe_18 (by decide) ?_
      refine lv_irem hx hb dX9_canBe_20 (by decide) ?_
      refine lv_bipush (v := 31) hx hb dX9_canBe_21 (by decide) ?_
      refine lv_icmp_gt (tgt := 39) hx hb dX9_canBe_23 (by decide) (fun c3 => ?_) (fun c3 => ?_)
      · refine lv_iconst (v := 0) hx hb dX9_canBe_39 (by decide) ?_
        exact cr_rz hx hb hr hlocks (by simp only [c_pcb, decide_eq_false c1, decide_eq_true (Int32.not_le.mp c2), decide_eq_true c3, Bool.not_true, Bool.not_false, Bool.and_true, Bool.true_and, Bool.and_false, Bool.false_and, Bool.or_true, Bool.true_or, Bool.or_false, Bool.false_or, Bool.and_self, Bool.or_self, eq_self, if_true, Bool.false_eq_true, if_false] <;> rfl) (rfl) dX9_canBe_40
      · refine lv_iload_n hx hb dX9_canBe_26 rfl (lv_at hl 0 rfl) ?_
        refine lv_sipush (v := 10000) hx hb dX9_canBe_27 (by decide) ?_
        refine lv_irem hx hb dX9_canBe_30 (by decide) ?_
        refine lv_iconst (v := 1) hx hb dX9_canBe_31 (by decide) ?_
        refine lv_icmp_lt (tgt := 39) hx hb dX9_canBe_32 (by decide) (fun c4 => ?_) (fun c4 => ?_)
        · refine lv_iconst (v := 0) hx hb dX9_canBe_39 (by decide) ?_
          exact cr_rz hx hb hr hlocks (by simp only [c_pcb, decide_eq_false c1, decide_eq_true (Int32.not_le.mp c2), decide_eq_false c3, decide_eq_true c4, Bool.not_true, Bool.not_false, Bool.and_true, Bool.true_and, Bool.and_false, Bool.false_and, Bool.or_true, Bool.true_or, Bool.or_false, Bool.false_or, Bool.and_self, Bool.or_self, eq_self, if_true, Bool.false_eq_true, if_false] <;> rfl) (rfl) dX9_canBe_40
        · refine lv_iconst (v := 1) hx hb dX9_canBe_35 (by decide) ?_
          refine lv_goto (tgt := 40) hx hb dX9_canBe_36 (by decide) ?_
          exact cr_rz hx hb hr hlocks (by simp only [c_pcb, decide_eq_false c1, decide_eq_true (Int32.not_le.mp c2), decide_eq_false c3, decide_eq_false c4, Bool.not_true, Bool.not_false, Bool.and_true, Bool.true_and, Bool.and_false, Bool.false_and, Bool.or_true, Bool.true_or, Bool.or_false, Bool.false_or, Bool.and_self, Bool.or_self, eq_self, if_true, Bool.false_eq_true, if_false] <;> rfl) (rfl) dX9_canBe_40
set_option maxHeartbeats 1000000 in
set_option maxRecDepth 20000 in
theorem y_law (l : Launch) (E : EV) (A : Nat → Prop) (σ : St) (L : Nat → Nat → Nat) (ld dy wt nt : Int32) : Ct l E yX10_law cX10_law 5 (some .boolean) 8 212 2 408 A [.ref (L 0 0), .int ld, .int dy, .int wt, .int nt] (fun H => Cd E A σ L H ∧ InvM σ ∧ InvP σ ∧ InvJ σ) (fun v H => ∃ L1, v = some (.int (k_law σ ld dy wt nt).1) ∧ Cd E A (k_law σ ld dy wt nt).2 L1 H ∧ L1 0 0 = L 0 0) := by
  refine Ct.of (by decide +kernel) (Nat.le_of_ble_eq_true rfl) (fun pg ev s mi bel mth cd hx hb hr hml hown hu hlocks hnm hE hP hA hZ ls hl => ?_)
  have hl : lv_has ls 5 [(0, .ref (L 0 0)), (1, .int ld), (2, .int dy), (3, .int wt), (4, .int nt)] := hl
  have hS : va_S A s.heap s.heap [] := va_S.rf
  obtain ⟨hC, hI, hK, hJ⟩ := hP
  refine lv_iload_n hx hb dX10_law_0 rfl (lv_at hl 1 rfl) ?_
  refine lv_if_lt (tgt := 36) hx hb dX10_law_1 (by decide) (fun c1 => ?_) (fun c1 => ?_)
  · refine lv_iconst (v := 0) hx hb dX10_law_36 (by decide) ?_
    exact ct_rz hx hb hr hlocks hS (by (have hB : (c_lawBad σ ld dy wt nt) = true := (by simp only [c_lawBad, decide_eq_true c1, Bool.not_true, Bool.not_false, Bool.and_true, Bool.true_and, Bool.and_false, Bool.false_and, Bool.or_true, Bool.true_or, Bool.or_false, Bool.false_or, Bool.and_self, Bool.or_self, eq_self, if_true, Bool.false_eq_true, if_false])); unfold k_law; rw [hB]; exact ⟨L, rfl, hC, rfl⟩) (rfl) (Nat.le_of_ble_eq_true rfl) (Nat.le_of_ble_eq_true rfl) dX10_law_37
  · refine lv_iload_n hx hb dX10_law_4 rfl (lv_at hl 1 rfl) ?_
    refine lv_bipush (v := 6) hx hb dX10_law_5 (by decide) ?_
    refine lv_icmp_ge (tgt := 36) hx hb dX10_law_7 (by decide) (fun c2 => ?_) (fun c2 => ?_)
    · refine lv_iconst (v := 0) hx hb dX10_law_36 (by decide) ?_
      exact ct_rz hx hb hr hlocks hS (by (have hB : (c_lawBad σ ld dy wt nt) = true := (by simp only [c_lawBad, decide_eq_false c1, decide_eq_false (Int32.not_lt.mpr c2), Bool.not_true, Bool.not_false, Bool.and_true, Bool.true_and, Bool.and_false, Bool.false_and, Bool.or_true, Bool.true_or, Bool.or_false, Bool.false_or, Bool.and_self, Bool.or_self, eq_self, if_true, Bool.false_eq_true, if_false])); unfold k_law; rw [hB]; exact ⟨L, rfl, hC, rfl⟩) (rfl) (Nat.le_of_ble_eq_true rfl) (Nat.le_of_ble_eq_true rfl) dX10_law_37
    · refine lv_iload_n hx hb dX10_law_10 rfl (lv_at hl 2 rfl) ?_
      refine cr_S (As := [.int dy]) (rest := []) hx hb hml hown hu hE (x_isDay l E dy) kX10_isDay u178 (trivial) ⟨Nat.le_of_ble_eq_true rfl, Nat.le_of_ble_eq_true rfl⟩ rfl hl.1 rfl (Nat.le_of_ble_eq_true rfl) ⟨Nat.le_of_ble_eq_true rfl, Nat.le_of_ble_eq_true rfl⟩ dX10_law_11 ?_
      refine onB (fun b3 => ?_) (fun b3 => ?_)
      · refine lv_if_eq (tgt := 36) hx hb dX10_law_14 (by decide) (fun c4 => absurd c4 (by decide)) (fun _ => ?_)
        refine lv_iload_n hx hb dX10_law_17 rfl (lv_at hl 3 rfl) ?_
        refine lv_iload hx hb dX10_law_18 (lv_at hl 4 rfl) ?_
        refine cr_S (As := [.int wt, .int nt]) (rest := []) hx hb hml hown hu hE (x_lcb l E wt nt) kX4_canBe u181 (trivial) ⟨Nat.le_of_ble_eq_true rfl, Nat.le_of_ble_eq_true rfl⟩ rfl hl.1 rfl (Nat.le_of_ble_eq_true rfl) ⟨Nat.le_of_ble_eq_true rfl, Nat.le_of_ble_eq_true rfl⟩ dX10_law_20 ?_
        refine onB (fun b5 => ?_) (fun b5 => ?_)
        · refine lv_if_eq (tgt := 36) hx hb dX10_law_23 (by decide) (fun c6 => absurd c6 (by decide)) (fun _ => ?_)
          refine lv_aload_n hx hb dX10_law_26 rfl (lv_at hl 0 rfl) ?_
          refine rd_get (k := 5) (v := .ref (L 4 0)) hx hb hown hu hE ok11 (cd_reg hC) (by decide) u142 (fun _ h => h) rfl dX10_law_27 ?_
          refine cr_V (As := []) (rest := []) hx hb hml hown hu hE (x_isFull l E A σ L) kX5_isFull u184 (cd_lb hC) rfl rfl (⟨hC, hI⟩) ⟨Nat.le_of_ble_eq_true rfl, Nat.le_of_ble_eq_true rfl⟩ rfl hl.1 rfl (Nat.le_of_ble_eq_true rfl) ⟨Nat.le_of_ble_eq_true rfl, Nat.le_of_ble_eq_true rfl⟩ dX10_law_30 ?_
          refine onB (fun b7 => ?_) (fun b7 => ?_)
          · refine lv_if_eq (tgt := 38) hx hb dX10_law_33 (by decide) (fun c8 => absurd c8 (by decide)) (fun _ => ?_)
            refine lv_iconst (v := 0) hx hb dX10_law_36 (by decide) ?_
            exact ct_rz hx hb hr hlocks hS (by (have hB : (c_lawBad σ ld dy wt nt) = true := (by simp only [c_lawBad, decide_eq_false c1, decide_eq_true (Int32.not_le.mp c2), b3, b5, b7, Bool.not_true, Bool.not_false, Bool.and_true, Bool.true_and, Bool.and_false, Bool.false_and, Bool.or_true, Bool.true_or, Bool.or_false, Bool.false_or, Bool.and_self, Bool.or_self, eq_self, if_true, Bool.false_eq_true, if_false])); unfold k_law; rw [hB]; exact ⟨L, rfl, hC, rfl⟩) (rfl) (Nat.le_of_ble_eq_true rfl) (Nat.le_of_ble_eq_true rfl) dX10_law_37
          · refine lv_if_eq (tgt := 38) hx hb dX10_law_33 (by decide) (fun _ => ?_) (fun c9 => absurd (by decide) c9)
            refine lv_aload_n hx hb dX10_law_38 rfl (lv_at hl 0 rfl) ?_
            refine rd_get (k := 5) (v := .ref (L 4 0)) hx hb hown hu hE ok11 (cd_reg hC) (by decide) u142 (fun _ h => h) rfl dX10_law_39 ?_
            obtain ⟨nw, hnw⟩ : ∃ z : Nat, z = s.heap.size := ⟨_, rfl⟩
            have hAnw : A nw := hA nw (by rw [hnw]; exact hS.1)
            have hsz := hS.1
            have hlt : ∀ k i, cv σ k i → L k i < s.heap.size := fun k i hv => cd_lt hC hv
            refine nw_new (fs := df5) hx hb hown hu hE ok5 hS u192 dfl5 (Nat.le_of_ble_eq_true rfl) (Nat.le_of_ble_eq_true rfl) dX10_law_42 (fun H1 ho hz oq hS => ?_)
            rw [← hnw] at ho hz oq hlt ⊢
            have hC := cd_kept hC (fun k i hv => oq _ (hlt k i hv))
            have hfr : ∀ k i, cv σ k i → L k i ≠ nw := fun k i hv => Nat.ne_of_lt (hlt k i hv)
            refine lv_dup hx hb dX10_law_45 rfl ?_
            refine lv_iload_n hx hb dX10_law_46 rfl (lv_at hl 1 rfl) ?_
            refine lv_iload_n hx hb dX10_law_47 rfl (lv_at hl 2 rfl) ?_
            refine lv_iload_n hx hb dX10_law_48 rfl (lv_at hl 3 rfl) ?_
            refine lv_iload hx hb dX10_law_49 (lv_at hl 4 rfl) ?_
            refine ct_I (As := [.int ld, .int dy, .int wt, .int nt]) (rest := [.ref nw, .ref (L 4 0)]) hx hb hml hown hu hE hZ hS (fun _ h => h) (fun q h => hA q (Nat.le_trans hS.1 h)) (i_Law l E A H1 nw ld dy wt nt) kX4_init u193 (⟨rfl, ho, hAnw⟩) ⟨Nat.le_of_ble_eq_true rfl, Nat.le_of_ble_eq_true rfl⟩ rfl hl.1 rfl (Nat.le_of_ble_eq_true rfl) ⟨Nat.le_of_ble_eq_true rfl, Nat.le_of_ble_eq_true rfl⟩ dX10_law_51 (fun v10 H1 locs1 hR hS hz hk => ?_)
            obtain ⟨rfl, ho, oq⟩ := hR
            have hC := cd_kept hC (fun k i hv => oq _ (by have := hlt k i hv; omega) (hfr k i hv))
            refine ct_V (As := [.ref nw]) (rest := []) hx hb hml hown hu hE hZ hS (fun _ h => h) (fun q h => hA q (Nat.le_trans hS.1 h)) (x_tell l E A H1 σ L nw ([.int ld, .int dy, .int (wt / 1000000), .int (rm (wt / 100000) 10), .int (rm (wt / 10000) 10), .int (rm (wt / 1000) 10), .int (rm wt 1000), .int nt])) kX5_tell u194 (cd_lb hC) rfl rfl (⟨rfl, hC, hI, hK, (Nat.lt_of_lt_of_le (lt_cnt (t := 2) hI.1.2.1 (full_lt b7) (K := 60) rfl) (by decide)), ho, hfr⟩) ⟨Nat.le_of_ble_eq_true rfl, Nat.le_of_ble_eq_true rfl⟩ rfl hl.1 rfl (Nat.le_of_ble_eq_true rfl) ⟨Nat.le_of_ble_eq_true rfl, Nat.le_of_ble_eq_true rfl⟩ dX10_law_54 (fun v11 H1 locs1 hR hS hz hk => ?_)
            obtain ⟨rfl, hg⟩ := hR
            refine lv_iconst (v := 1) hx hb dX10_law_57 (by decide) ?_
            exact ct_rz hx hb hr hlocks hS (by (have hB : (c_lawBad σ ld dy wt nt) = false := (by simp only [c_lawBad, decide_eq_false c1, decide_eq_true (Int32.not_le.mp c2), b3, b5, b7, Bool.not_true, Bool.not_false, Bool.and_true, Bool.true_and, Bool.and_false, Bool.false_and, Bool.or_true, Bool.true_or, Bool.or_false, Bool.false_or, Bool.and_self, Bool.or_self, eq_self, if_true, Bool.false_eq_true, if_false])); obtain ⟨L1, c1, c2⟩ := cl_law hC hI hK hJ (lt_cnt (t := 2) hI.1.2.1 (full_lt b7) rfl) hg hAnw hfr ho; unfold k_law; rw [hB]; exact ⟨L1, rfl, c1, c2⟩) (rfl) (Nat.le_of_ble_eq_true rfl) (Nat.le_of_ble_eq_true rfl) dX10_law_58
        · refine lv_if_eq (tgt := 36) hx hb dX10_law_23 (by decide) (fun _ => ?_) (fun c12 => absurd (by decide) c12)
          refine lv_iconst (v := 0) hx hb dX10_law_36 (by decide) ?_
          exact ct_rz hx hb hr hlocks hS (by (have hB : (c_lawBad σ ld dy wt nt) = true := (by simp only [c_lawBad, decide_eq_false c1, decide_eq_true (Int32.not_le.mp c2), b3, b5, Bool.not_true, Bool.not_false, Bool.and_true, Bool.true_and, Bool.and_false, Bool.false_and, Bool.or_true, Bool.true_or, Bool.or_false, Bool.false_or, Bool.and_self, Bool.or_self, eq_self, if_true, Bool.false_eq_true, if_false])); unfold k_law; rw [hB]; exact ⟨L, rfl, hC, rfl⟩) (rfl) (Nat.le_of_ble_eq_true rfl) (Nat.le_of_ble_eq_true rfl) dX10_law_37
      · refine lv_if_eq (tgt := 36) hx hb dX10_law_14 (by decide) (fun _ => ?_) (fun c13 => absurd (by decide) c13)
        refine lv_iconst (v := 0) hx hb dX10_law_36 (by decide) ?_
        exact ct_rz hx hb hr hlocks hS (by (have hB : (c_lawBad σ ld dy wt nt) = true := (by simp only [c_lawBad, decide_eq_false c1, decide_eq_true (Int32.not_le.mp c2), b3, Bool.not_true, Bool.not_false, Bool.and_true, Bool.true_and, Bool.and_false, Bool.false_and, Bool.or_true, Bool.true_or, Bool.or_false, Bool.false_or, Bool.and_self, Bool.or_self, eq_self, if_true, Bool.false_eq_true, if_false])); unfold k_law; rw [hB]; exact ⟨L, rfl, hC, rfl⟩) (rfl) (Nat.le_of_ble_eq_true rfl) (Nat.le_of_ble_eq_true rfl) dX10_law_37
set_option maxHeartbeats 1000000 in
set_option maxRecDepth 20000 in
theorem y_person (l : Launch) (E : EV) (A : Nat → Prop) (σ : St) (L : Nat → Nat → Nat) (wh bo fa mo : Int32) : Ct l E yX10_person cX10_person 6 (some .int) 7 191 3 412 A [.ref (L 0 0), .int wh, .int bo, .int fa, .int mo] (fun H => Cd E A σ L H ∧ InvM σ ∧ InvP σ ∧ InvJ σ) (fun v H => ∃ L1, v = some (.int (k_person σ wh bo fa mo).1) ∧ Cd E A (k_person σ wh bo fa mo).2 L1 H ∧ L1 0 0 = L 0 0) := by
  refine Ct.of (by decide +kernel) (Nat.le_of_ble_eq_true rfl) (fun pg ev s mi bel mth cd hx hb hr hml hown hu hlocks hnm hE hP hA hZ ls hl => ?_)
  have hl : lv_has ls 6 [(0, .ref (L 0 0)), (1, .int wh), (2, .int bo), (3, .int fa), (4, .int mo)] := hl
  have hS : va_S A s.heap s.heap [] := va_S.rf
  obtain ⟨hC, hI, hK, hJ⟩ := hP
  refine lv_iload_n hx hb dX10_person_0 rfl (lv_at hl 1 rfl) ?_
  refine cr_S (As := [.int wh]) (rest := []) hx hb hml hown hu hE (x_pcb l E wh) kX9_canBe u262 (trivial) ⟨Nat.le_of_ble_eq_true rfl, Nat.le_of_ble_eq_true rfl⟩ rfl hl.1 rfl (Nat.le_of_ble_eq_true rfl) ⟨Nat.le_of_ble_eq_true rfl, Nat.le_of_ble_eq_true rfl⟩ dX10_person_1 ?_
  refine onB (fun b1 => ?_) (fun b1 => ?_)
  · refine lv_if_eq (tgt := 34) hx hb dX10_person_4 (by decide) (fun c2 => absurd c2 (by decide)) (fun _ => ?_)
    refine lv_iload_n hx hb dX10_person_7 rfl (lv_at hl 2 rfl) ?_
    refine lv_sipush (v := (-30000)) hx hb dX10_person_8 (by decide) ?_
    refine lv_icmp_lt (tgt := 34) hx hb dX10_person_11 (by decide) (fun c3 => ?_) (fun c3 => ?_)
    · refine lv_iconst (v := (-1)) hx hb dX10_person_34 (by decide) ?_
      exact ct_ri hx hb hr hlocks hS (by (have hB : (c_perBad σ wh bo fa mo) = true := (by simp only [c_perBad, b1, decide_eq_true c3, Bool.not_true, Bool.not_false, Bool.and_true, Bool.true_and, Bool.and_false, Bool.false_and, Bool.or_true, Bool.true_or, Bool.or_false, Bool.false_or, Bool.and_self, Bool.or_self, eq_self, if_true, Bool.false_eq_true, if_false])); unfold k_person; rw [hB]; exact ⟨L, rfl, hC, rfl⟩) (Nat.le_of_ble_eq_true rfl) (Nat.le_of_ble_eq_true rfl) dX10_person_35
    · refine lv_iload_n hx hb dX10_person_14 rfl (lv_at hl 2 rfl) ?_
      refine lv_aload_n hx hb dX10_person_15 rfl (lv_at hl 0 rfl) ?_
      refine rd_get (k := 0) (v := .int (σ 0 0)) hx hb hown hu hE ok11 (cd_reg hC) (by decide) u137 (fun _ h => h) rfl dX10_person_16 ?_
      refine lv_icmp_gt (tgt := 34) hx hb dX10_person_19 (by decide) (fun c4 => ?_) (fun c4 => ?_)
      · refine lv_iconst (v := (-1)) hx hb dX10_person_34 (by decide) ?_
        exact ct_ri hx hb hr hlocks hS (by (have hB : (c_perBad σ wh bo fa mo) = true := (by simp only [c_perBad, b1, decide_eq_false c3, decide_eq_true c4, Bool.not_true, Bool.not_false, Bool.and_true, Bool.true_and, Bool.and_false, Bool.false_and, Bool.or_true, Bool.true_or, Bool.or_false, Bool.false_or, Bool.and_self, Bool.or_self, eq_self, if_true, Bool.false_eq_true, if_false])); unfold k_person; rw [hB]; exact ⟨L, rfl, hC, rfl⟩) (Nat.le_of_ble_eq_true rfl) (Nat.le_of_ble_eq_true rfl) dX10_person_35
      · refine lv_aload_n hx hb dX10_person_22 rfl (lv_at hl 0 rfl) ?_
        refine rd_get (k := 6) (v := .ref (L 9 1)) hx hb hown hu hE ok11 (cd_reg hC) (by decide) u143 (fun _ h => h) rfl dX10_person_23 ?_
        refine cr_V (As := []) (rest := []) hx hb hml hown hu hE (c_LS1 l E A σ L) kJx4a65c_size_8abf5 u266 ((cd_lex hC (j := 1) (by omega)).choose_spec) rfl rfl (⟨hC, hI⟩) ⟨Nat.le_of_ble_eq_true rfl, Nat.le_of_ble_eq_true rfl⟩ rfl hl.1 rfl (Nat.le_of_ble_eq_true rfl) ⟨Nat.le_of_ble_eq_true rfl, Nat.le_of_ble_eq_true rfl⟩ dX10_person_26 ?_
        refine lv_bipush (v := 40) hx hb dX10_person_29 (by decide) ?_
        refine lv_icmp_lt (tgt := 36) hx hb dX10_person_31 (by decide) (fun c5 => ?_) (fun c5 => ?_)
        · refine lv_aload_n hx hb dX10_person_36 rfl (lv_at hl 0 rfl) ?_
          refine lv_iload_n hx hb dX10_person_37 rfl (lv_at hl 3 rfl) ?_
          refine lv_iload hx hb dX10_person_38 (lv_at hl 4 rfl) ?_
          refine cr_V (As := [.int fa, .int mo]) (rest := []) hx hb hml hown hu hE (x_cbp l E A σ L fa mo) kX10_canBeParents u267 (cd_reg hC) rfl rfl (⟨hC, hI⟩) ⟨Nat.le_of_ble_eq_true rfl, Nat.le_of_ble_eq_true rfl⟩ rfl hl.1 rfl (Nat.le_of_ble_eq_true rfl) ⟨Nat.le_of_ble_eq_true rfl, Nat.le_of_ble_eq_true rfl⟩ dX10_person_40 ?_
          refine onB (fun b6 => ?_) (fun b6 => ?_)
          · refine lv_if_ne (tgt := 48) hx hb dX10_person_43 (by decide) (fun _ => ?_) (fun c7 => absurd c7 (by decide))
            refine lv_aload_n hx hb dX10_person_48 rfl (lv_at hl 0 rfl) ?_
            refine rd_get (k := 6) (v := .ref (L 9 1)) hx hb hown hu hE ok11 (cd_reg hC) (by decide) u143 (fun _ h => h) rfl dX10_person_49 ?_
            refine cr_V (As := []) (rest := []) hx hb hml hown hu hE (c_LS1 l E A σ L) kJx4a65c_size_8abf5 u266 ((cd_lex hC (j := 1) (by omega)).choose_spec) rfl rfl (⟨hC, hI⟩) ⟨Nat.le_of_ble_eq_true rfl, Nat.le_of_ble_eq_true rfl⟩ rfl hl.1 rfl (Nat.le_of_ble_eq_true rfl) ⟨Nat.le_of_ble_eq_true rfl, Nat.le_of_ble_eq_true rfl⟩ dX10_person_52 ?_
            refine lv_istore (lv' := [(5, .int (σ 11 0)), (0, .ref (L 0 0)), (1, .int wh), (2, .int bo), (3, .int fa), (4, .int mo)]) hx hb dX10_person_55 hl (by decide) rfl (fun ls hl => ?_)
            refine lv_aload_n hx hb dX10_person_57 rfl (lv_at hl 1 rfl) ?_
            refine rd_get (k := 6) (v := .ref (L 9 1)) hx hb hown hu hE ok11 (cd_reg hC) (by decide) u143 (fun _ h => h) rfl dX10_person_58 ?_
            obtain ⟨nw, hnw⟩ : ∃ z : Nat, z = s.heap.size := ⟨_, rfl⟩
            have hAnw : A nw := hA nw (by rw [hnw]; exact hS.1)
            have hsz := hS.1
            have hlt : ∀ k i, cv σ k i → L k i < s.heap.size := fun k i hv => cd_lt hC hv
            refine nw_new (fs := df10) hx hb hown hu hE ok10 hS u289 dfl10 (Nat.le_of_ble_eq_true rfl) (Nat.le_of_ble_eq_true rfl) dX10_person_61 (fun H1 ho hz oq hS => ?_)
            rw [← hnw] at ho hz oq hlt ⊢
            have hC := cd_kept hC (fun k i hv => oq _ (hlt k i hv))
            have hfr : ∀ k i, cv σ k i → L k i ≠ nw := fun k i hv => Nat.ne_of_lt (hlt k i hv)
            refine lv_dup hx hb dX10_person_64 rfl ?_
            refine lv_iload hx hb dX10_person_65 (lv_at hl 0 rfl) ?_
            refine lv_iload_n hx hb dX10_person_67 rfl (lv_at hl 2 rfl) ?_
            refine lv_iload_n hx hb dX10_person_68 rfl (lv_at hl 3 rfl) ?_
            refine lv_aload_n hx hb dX10_person_69 rfl (lv_at hl 1 rfl) ?_
            refine lv_iload_n hx hb dX10_person_70 rfl (lv_at hl 4 rfl) ?_
            refine cr_V (As := [.int fa]) (rest := [.int bo, .int wh, .int (σ 11 0), .ref nw, .ref nw, .ref (L 9 1)]) hx hb hml hown hu hE (x_perAt l E A σ L fa) kX10_personAt u271 (cd_reg hC) rfl rfl (⟨hC, hI⟩) ⟨Nat.le_of_ble_eq_true rfl, Nat.le_of_ble_eq_true rfl⟩ rfl hl.1 rfl (Nat.le_of_ble_eq_true rfl) ⟨Nat.le_of_ble_eq_true rfl, Nat.le_of_ble_eq_true rfl⟩ dX10_person_71 ?_
            refine onO (fun b8 => ?_) (fun b8 => ?_)
            · refine lv_aload_n hx hb dX10_person_74 rfl (lv_at hl 1 rfl) ?_
              refine lv_iload hx hb dX10_person_75 (lv_at hl 5 rfl) ?_
              refine cr_V (As := [.int mo]) (rest := [.ref (L 21 fa.toNatClampNeg), .int bo, .int wh, .int (σ 11 0), .ref nw, .ref nw, .ref (L 9 1)]) hx hb hml hown hu hE (x_perAt l E A σ L mo) kX10_personAt u271 (cd_reg hC) rfl rfl (⟨hC, hI⟩) ⟨Nat.le_of_ble_eq_true rfl, Nat.le_of_ble_eq_true rfl⟩ rfl hl.1 rfl (Nat.le_of_ble_eq_true rfl) ⟨Nat.le_of_ble_eq_true rfl, Nat.le_of_ble_eq_true rfl⟩ dX10_person_77 ?_
              refine onO (fun b9 => ?_) (fun b9 => ?_)
              · refine ct_I (As := [.int (σ 11 0), .int wh, .int bo, .ref (L 21 fa.toNatClampNeg), .ref (L 21 mo.toNatClampNeg)]) (rest := [.ref nw, .ref (L 9 1)]) hx hb hml hown hu hE hZ hS (fun _ h => h) (fun q h => hA q (Nat.le_trans hS.1 h)) (i_Per l E A H1 nw (σ 11 0) wh bo (some (L 21 fa.toNatClampNeg)) (some (L 21 mo.toNatClampNeg))) kX9_init u291 (⟨rfl, ho, hAnw⟩) ⟨Nat.le_of_ble_eq_true rfl, Nat.le_of_ble_eq_true rfl⟩ rfl hl.1 rfl (Nat.le_of_ble_eq_true rfl) ⟨Nat.le_of_ble_eq_true rfl, Nat.le_of_ble_eq_true rfl⟩ dX10_person_80 (fun v10 H1 locs1 hR hS hz hk => ?_)
                obtain ⟨rfl, nb, hnb, ho, hbb, hAb, oq⟩ := hR
                have hC := cd_kept hC (fun k i hv => oq _ (by have := hlt k i hv; omega) (hfr k i hv))
                have hfb : ∀ k i, cv σ k i → L k i ≠ nb := fun k i hv => by (have := hlt k i hv; omega)
                have hab : nw ≠ nb := by omega
                refine ct_V (As := [.ref nw]) (rest := []) hx hb hml hown hu hE hZ hS (fun _ h => h) (fun q h => hA q (Nat.le_trans hS.1 h)) (x_add l E A H1 σ L 21 11 1 nw ([.int (σ 11 0), .int (wh / 1000000), .int (rm (wh / 10000) 100), .int (rm wh 10000), .int bo, va_rf (some (L 21 fa.toNatClampNeg)), va_rf (some (L 21 mo.toNatClampNeg)), .ref nb, .null])) kJx4a65c_add_9ea2d u335 ((cd_lex hC (j := 1) (by omega)).choose_spec) rfl rfl (⟨rfl, hC, hI, hK, Or.inr (Or.inl ⟨rfl, rfl, rfl⟩), (by omega), (Nat.lt_of_lt_of_le (lt_cnt (t := 11) hI.1.2.2.1 c5 (K := 40) rfl) (by decide)), (by rw [show kci 21 = 10 from rfl]; exact ho), hfr⟩) ⟨Nat.le_of_ble_eq_true rfl, Nat.le_of_ble_eq_true rfl⟩ rfl hl.1 rfl (Nat.le_of_ble_eq_true rfl) ⟨Nat.le_of_ble_eq_true rfl, Nat.le_of_ble_eq_true rfl⟩ dX10_person_83 (fun v11 H1 locs1 hR hS hz hk => ?_)
                obtain ⟨rfl, hg⟩ := hR
                refine lv_pop hx hb dX10_person_86 rfl ?_
                refine lv_iload hx hb dX10_person_87 (lv_at hl 0 rfl) ?_
                exact ct_ri hx hb hr hlocks hS (by (have hB : (c_perBad σ wh bo fa mo) = false := (by simp only [c_perBad, b1, decide_eq_false c3, decide_eq_false c4, decide_eq_true c5, b6, b8, b9, Bool.not_true, Bool.not_false, Bool.and_true, Bool.true_and, Bool.and_false, Bool.false_and, Bool.or_true, Bool.true_or, Bool.or_false, Bool.false_or, Bool.and_self, Bool.or_self, eq_self, if_true, Bool.false_eq_true, if_false])); obtain ⟨L1, c1, c2⟩ := cl_per hC hI hK hJ (cbp_ok hI b6).1 (cbp_ok hI b6).2 hg hAnw hfr (by rw [rfo_S (okP_ne (isP_ok hI b8)), rfo_S (okP_ne (isP_ok hI b9))]; exact ho) hbb hAb hfb hab; unfold k_person; rw [hB]; exact ⟨L1, rfl, c1, c2⟩) (Nat.le_of_ble_eq_true rfl) (Nat.le_of_ble_eq_true rfl) dX10_person_89
              · refine ct_I (As := [.int (σ 11 0), .int wh, .int bo, .ref (L 21 fa.toNatClampNeg), .null]) (rest := [.ref nw, .ref (L 9 1)]) hx hb hml hown hu hE hZ hS (fun _ h => h) (fun q h => hA q (Nat.le_trans hS.1 h)) (i_Per l E A H1 nw (σ 11 0) wh bo (some (L 21 fa.toNatClampNeg)) none) kX9_init u291 (⟨rfl, ho, hAnw⟩) ⟨Nat.le_of_ble_eq_true rfl, Nat.le_of_ble_eq_true rfl⟩ rfl hl.1 rfl (Nat.le_of_ble_eq_true rfl) ⟨Nat.le_of_ble_eq_true rfl, Nat.le_of_ble_eq_true rfl⟩ dX10_person_80 (fun v12 H1 locs1 hR hS hz hk => ?_)
                obtain ⟨rfl, nb, hnb, ho, hbb, hAb, oq⟩ := hR
                have hC := cd_kept hC (fun k i hv => oq _ (by have := hlt k i hv; omega) (hfr k i hv))
                have hfb : ∀ k i, cv σ k i → L k i ≠ nb := fun k i hv => by (have := hlt k i hv; omega)
                have hab : nw ≠ nb := by omega
                refine ct_V (As := [.ref nw]) (rest := []) hx hb hml hown hu hE hZ hS (fun _ h => h) (fun q h => hA q (Nat.le_trans hS.1 h)) (x_add l E A H1 σ L 21 11 1 nw ([.int (σ 11 0), .int (wh / 1000000), .int (rm (wh / 10000) 100), .int (rm wh 10000), .int bo, va_rf (some (L 21 fa.toNatClampNeg)), va_rf none, .ref nb, .null])) kJx4a65c_add_9ea2d u335 ((cd_lex hC (j := 1) (by omega)).choose_spec) rfl rfl (⟨rfl, hC, hI, hK, Or.inr (Or.inl ⟨rfl, rfl, rfl⟩), (by omega), (Nat.lt_of_lt_of_le (lt_cnt (t := 11) hI.1.2.2.1 c5 (K := 40) rfl) (by decide)), (by rw [show kci 21 = 10 from rfl]; exact ho), hfr⟩) ⟨Nat.le_of_ble_eq_true rfl, Nat.le_of_ble_eq_true rfl⟩ rfl hl.1 rfl (Nat.le_of_ble_eq_true rfl) ⟨Nat.le_of_ble_eq_true rfl, Nat.le_of_ble_eq_true rfl⟩ dX10_person_83 (fun v13 H1 locs1 hR hS hz hk => ?_)
                obtain ⟨rfl, hg⟩ := hR
                refine lv_pop hx hb dX10_person_86 rfl ?_
                refine lv_iload hx hb dX10_person_87 (lv_at hl 0 rfl) ?_
                exact ct_ri hx hb hr hlocks hS (by (have hB : (c_perBad σ wh bo fa mo) = false := (by simp only [c_perBad, b1, decide_eq_false c3, decide_eq_false c4, decide_eq_true c5, b6, b8, b9, Bool.not_true, Bool.not_false, Bool.and_true, Bool.true_and, Bool.and_false, Bool.false_and, Bool.or_true, Bool.true_or, Bool.or_false, Bool.false_or, Bool.and_self, Bool.or_self, eq_self, if_true, Bool.false_eq_true, if_false])); obtain ⟨L1, c1, c2⟩ := cl_per hC hI hK hJ (cbp_ok hI b6).1 (cbp_ok hI b6).2 hg hAnw hfr (by rw [rfo_S (okP_ne (isP_ok hI b8)), rfo_N (isP_n hI (cbp_ok hI b6).2 b9)]; exact ho) hbb hAb hfb hab; unfold k_person; rw [hB]; exact ⟨L1, rfl, c1, c2⟩) (Nat.le_of_ble_eq_true rfl) (Nat.le_of_ble_eq_true rfl) dX10_person_89
            · refine lv_aload_n hx hb dX10_person_74 rfl (lv_at hl 1 rfl) ?_
              refine lv_iload hx hb dX10_person_75 (lv_at hl 5 rfl) ?_
              refine cr_V (As := [.int mo]) (rest := [.null, .int bo, .int wh, .int (σ 11 0), .ref nw, .ref nw, .ref (L 9 1)]) hx hb hml hown hu hE (x_perAt l E A σ L mo) kX10_personAt u271 (cd_reg hC) rfl rfl (⟨hC, hI⟩) ⟨Nat.le_of_ble_eq_true rfl, Nat.le_of_ble_eq_true rfl⟩ rfl hl.1 rfl (Nat.le_of_ble_eq_true rfl) ⟨Nat.le_of_ble_eq_true rfl, Nat.le_of_ble_eq_true rfl⟩ dX10_person_77 ?_
              refine onO (fun b14 => ?_) (fun b14 => ?_)
              · refine ct_I (As := [.int (σ 11 0), .int wh, .int bo, .null, .ref (L 21 mo.toNatClampNeg)]) (rest := [.ref nw, .ref (L 9 1)]) hx hb hml hown hu hE hZ hS (fun _ h => h) (fun q h => hA q (Nat.le_trans hS.1 h)) (i_Per l E A H1 nw (σ 11 0) wh bo none (some (L 21 mo.toNatClampNeg))) kX9_init u291 (⟨rfl, ho, hAnw⟩) ⟨Nat.le_of_ble_eq_true rfl, Nat.le_of_ble_eq_true rfl⟩ rfl hl.1 rfl (Nat.le_of_ble_eq_true rfl) ⟨Nat.le_of_ble_eq_true rfl, Nat.le_of_ble_eq_true rfl⟩ dX10_person_80 (fun v15 H1 locs1 hR hS hz hk => ?_)
                obtain ⟨rfl, nb, hnb, ho, hbb, hAb, oq⟩ := hR
                have hC := cd_kept hC (fun k i hv => oq _ (by have := hlt k i hv; omega) (hfr k i hv))
                have hfb : ∀ k i, cv σ k i → L k i ≠ nb := fun k i hv => by (have := hlt k i hv; omega)
                have hab : nw ≠ nb := by omega
                refine ct_V (As := [.ref nw]) (rest := []) hx hb hml hown hu hE hZ hS (fun _ h => h) (fun q h => hA q (Nat.le_trans hS.1 h)) (x_add l E A H1 σ L 21 11 1 nw ([.int (σ 11 0), .int (wh / 1000000), .int (rm (wh / 10000) 100), .int (rm wh 10000), .int bo, va_rf none, va_rf (some (L 21 mo.toNatClampNeg)), .ref nb, .null])) kJx4a65c_add_9ea2d u335 ((cd_lex hC (j := 1) (by omega)).choose_spec) rfl rfl (⟨rfl, hC, hI, hK, Or.inr (Or.inl ⟨rfl, rfl, rfl⟩), (by omega), (Nat.lt_of_lt_of_le (lt_cnt (t := 11) hI.1.2.2.1 c5 (K := 40) rfl) (by decide)), (by rw [show kci 21 = 10 from rfl]; exact ho), hfr⟩) ⟨Nat.le_of_ble_eq_true rfl, Nat.le_of_ble_eq_true rfl⟩ rfl hl.1 rfl (Nat.le_of_ble_eq_true rfl) ⟨Nat.le_of_ble_eq_true rfl, Nat.le_of_ble_eq_true rfl⟩ dX10_person_83 (fun v16 H1 locs1 hR hS hz hk => ?_)
                obtain ⟨rfl, hg⟩ := hR
                refine lv_pop hx hb dX10_person_86 rfl ?_
                refine lv_iload hx hb dX10_person_87 (lv_at hl 0 rfl) ?_
                exact ct_ri hx hb hr hlocks hS (by (have hB : (c_perBad σ wh bo fa mo) = false := (by simp only [c_perBad, b1, decide_eq_false c3, decide_eq_false c4, decide_eq_true c5, b6, b8, b14, Bool.not_true, Bool.not_false, Bool.and_true, Bool.true_and, Bool.and_false, Bool.false_and, Bool.or_true, Bool.true_or, Bool.or_false, Bool.false_or, Bool.and_self, Bool.or_self, eq_self, if_true, Bool.false_eq_true, if_false])); obtain ⟨L1, c1, c2⟩ := cl_per hC hI hK hJ (cbp_ok hI b6).1 (cbp_ok hI b6).2 hg hAnw hfr (by rw [rfo_N (isP_n hI (cbp_ok hI b6).1 b8), rfo_S (okP_ne (isP_ok hI b14))]; exact ho) hbb hAb hfb hab; unfold k_person; rw [hB]; exact ⟨L1, rfl, c1, c2⟩) (Nat.le_of_ble_eq_true rfl) (Nat.le_of_ble_eq_true rfl) dX10_person_89
              · refine ct_I (As := [.int (σ 11 0), .int wh, .int bo, .null, .null]) (rest := [.ref nw, .ref (L 9 1)]) hx hb hml hown hu hE hZ hS (fun _ h => h) (fun q h => hA q (Nat.le_trans hS.1 h)) (i_Per l E A H1 nw (σ 11 0) wh bo none none) kX9_init u291 (⟨rfl, ho, hAnw⟩) ⟨Nat.le_of_ble_eq_true rfl, Nat.le_of_ble_eq_true rfl⟩ rfl hl.1 rfl (Nat.le_of_ble_eq_true rfl) ⟨Nat.le_of_ble_eq_true rfl, Nat.le_of_ble_eq_true rfl⟩ dX10_person_80 (fun v17 H1 locs1 hR hS hz hk => ?_)
                obtain ⟨rfl, nb, hnb, ho, hbb, hAb, oq⟩ := hR
                have hC := cd_kept hC (fun k i hv => oq _ (by have := hlt k i hv; omega) (hfr k i hv))
                have hfb : ∀ k i, cv σ k i → L k i ≠ nb := fun k i hv => by (have := hlt k i hv; omega)
                have hab : nw ≠ nb := by omega
                refine ct_V (As := [.ref nw]) (rest := []) hx hb hml hown hu hE hZ hS (fun _ h => h) (fun q h => hA q (Nat.le_trans hS.1 h)) (x_add l E A H1 σ L 21 11 1 nw ([.int (σ 11 0), .int (wh / 1000000), .int (rm (wh / 10000) 100), .int (rm wh 10000), .int bo, va_rf none, va_rf none, .ref nb, .null])) kJx4a65c_add_9ea2d u335 ((cd_lex hC (j := 1) (by omega)).choose_spec) rfl rfl (⟨rfl, hC, hI, hK, Or.inr (Or.inl ⟨rfl, rfl, rfl⟩), (by omega), (Nat.lt_of_lt_of_le (lt_cnt (t := 11) hI.1.2.2.1 c5 (K := 40) rfl) (by decide)), (by rw [show kci 21 = 10 from rfl]; exact ho), hfr⟩) ⟨Nat.le_of_ble_eq_true rfl, Nat.le_of_ble_eq_true rfl⟩ rfl hl.1 rfl (Nat.le_of_ble_eq_true rfl) ⟨Nat.le_of_ble_eq_true rfl, Nat.le_of_ble_eq_true rfl⟩ dX10_person_83 (fun v18 H1 locs1 hR hS hz hk => ?_)
                obtain ⟨rfl, hg⟩ := hR
                refine lv_pop hx hb dX10_person_86 rfl ?_
                refine lv_iload hx hb dX10_person_87 (lv_at hl 0 rfl) ?_
                exact ct_ri hx hb hr hlocks hS (by (have hB : (c_perBad σ wh bo fa mo) = false := (by simp only [c_perBad, b1, decide_eq_false c3, decide_eq_false c4, decide_eq_true c5, b6, b8, b14, Bool.not_true, Bool.not_false, Bool.and_true, Bool.true_and, Bool.and_false, Bool.false_and, Bool.or_true, Bool.true_or, Bool.or_false, Bool.false_or, Bool.and_self, Bool.or_self, eq_self, if_true, Bool.false_eq_true, if_false])); obtain ⟨L1, c1, c2⟩ := cl_per hC hI hK hJ (cbp_ok hI b6).1 (cbp_ok hI b6).2 hg hAnw hfr (by rw [rfo_N (isP_n hI (cbp_ok hI b6).1 b8), rfo_N (isP_n hI (cbp_ok hI b6).2 b14)]; exact ho) hbb hAb hfb hab; unfold k_person; rw [hB]; exact ⟨L1, rfl, c1, c2⟩) (Nat.le_of_ble_eq_true rfl) (Nat.le_of_ble_eq_true rfl) dX10_person_89
          · refine lv_if_ne (tgt := 48) hx hb dX10_person_43 (by decide) (fun c19 => absurd c19 (by decide)) (fun _ => ?_)
            refine lv_iconst (v := (-1)) hx hb dX10_person_46 (by decide) ?_
            exact ct_ri hx hb hr hlocks hS (by (have hB : (c_perBad σ wh bo fa mo) = true := (by simp only [c_perBad, b1, decide_eq_false c3, decide_eq_false c4, decide_eq_true c5, b6, Bool.not_true, Bool.not_false, Bool.and_true, Bool.true_and, Bool.and_false, Bool.false_and, Bool.or_true, Bool.true_or, Bool.or_false, Bool.false_or, Bool.and_self, Bool.or_self, eq_self, if_true, Bool.false_eq_true, if_false])); unfold k_person; rw [hB]; exact ⟨L, rfl, hC, rfl⟩) (Nat.le_of_ble_eq_true rfl) (Nat.le_of_ble_eq_true rfl) dX10_person_47
        · refine lv_iconst (v := (-1)) hx hb dX10_person_34 (by decide) ?_
          exact ct_ri hx hb hr hlocks hS (by (have hB : (c_perBad σ wh bo fa mo) = true := (by simp only [c_perBad, b1, decide_eq_false c3, decide_eq_false c4, decide_eq_false c5, Bool.not_true, Bool.not_false, Bool.and_true, Bool.true_and, Bool.and_false, Bool.false_and, Bool.or_true, Bool.true_or, Bool.or_false, Bool.false_or, Bool.and_self, Bool.or_self, eq_self, if_true, Bool.false_eq_true, if_false])); unfold k_person; rw [hB]; exact ⟨L, rfl, hC, rfl⟩) (Nat.le_of_ble_eq_true rfl) (Nat.le_of_ble_eq_true rfl) dX10_person_35
  · refine lv_if_eq (tgt := 34) hx hb dX10_person_4 (by decide) (fun _ => ?_) (fun c20 => absurd (by decide) c20)
    refine lv_iconst (v := (-1)) hx hb dX10_person_34 (by decide) ?_
    exact ct_ri hx hb hr hlocks hS (by (have hB : (c_perBad σ wh bo fa mo) = true := (by simp only [c_perBad, b1, Bool.not_true, Bool.not_false, Bool.and_true, Bool.true_and, Bool.and_false, Bool.false_and, Bool.or_true, Bool.true_or, Bool.or_false, Bool.false_or, Bool.and_self, Bool.or_self, eq_self, if_true, Bool.false_eq_true, if_false])); unfold k_person; rw [hB]; exact ⟨L, rfl, hC, rfl⟩) (Nat.le_of_ble_eq_true rfl) (Nat.le_of_ble_eq_true rfl) dX10_person_35
set_option maxHeartbeats 1000000 in
set_option maxRecDepth 20000 in
theorem y_correct (l : Launch) (E : EV) (A : Nat → Prop) (σ : St) (L : Nat → Nat → Nat) (e f x : Int32) : Ct l E yX10_correct cX10_correct 5 (some .boolean) 7 191 2 404 A [.ref (L 0 0), .int e, .int f, .int x] (fun H => Cd E A σ L H ∧ InvM σ ∧ InvP σ ∧ InvJ σ) (fun v H => ∃ L1, v = some (.int (k_correct σ e f x).1) ∧ Cd E A (k_correct σ e f x).2 L1 H ∧ L1 0 0 = L 0 0) := by
  refine Ct.of (by decide +kernel) (Nat.le_of_ble_eq_true rfl) (fun pg ev s mi bel mth cd hx hb hr hml hown hu hlocks hnm hE hP hA hZ ls hl => ?_)
  have hl : lv_has ls 5 [(0, .ref (L 0 0)), (1, .int e), (2, .int f), (3, .int x)] := hl
  have hS : va_S A s.heap s.heap [] := va_S.rf
  obtain ⟨hC, hI, hK, hJ⟩ := hP
  refine lv_aload_n hx hb dX10_correct_0 rfl (lv_at hl 0 rfl) ?_
  refine lv_iload_n hx hb dX10_correct_1 rfl (lv_at hl 1 rfl) ?_
  refine cr_V (As := [.int e]) (rest := []) hx hb hml hown hu hE (x_entAt l E A σ L e) kX10_entryAt u686 (cd_reg hC) rfl rfl (⟨hC, hI⟩) ⟨Nat.le_of_ble_eq_true rfl, Nat.le_of_ble_eq_true rfl⟩ rfl hl.1 rfl (Nat.le_of_ble_eq_true rfl) ⟨Nat.le_of_ble_eq_true rfl, Nat.le_of_ble_eq_true rfl⟩ dX10_correct_2 ?_
  refine onO (fun b1 => ?_) (fun b1 => ?_)
  · refine lv_astore (lv' := [(4, .ref (L 24 e.toNatClampNeg)), (0, .ref (L 0 0)), (1, .int e), (2, .int f), (3, .int x)]) hx hb dX10_correct_5 hl (by decide) rfl (fun ls hl => ?_)
    refine lv_aload hx hb dX10_correct_7 (lv_at hl 0 rfl) ?_
    refine lv_ifnull hx hb dX10_correct_9 ?_
    refine lv_iload_n hx hb dX10_correct_12 rfl (lv_at hl 3 rfl) ?_
    refine lv_if_lt (tgt := 21) hx hb dX10_correct_13 (by decide) (fun c2 => ?_) (fun c2 => ?_)
    · refine lv_iconst (v := 0) hx hb dX10_correct_21 (by decide) ?_
      exact ct_rz hx hb hr hlocks hS (by (have hB : (c_coBad σ e f x) = true := (by simp only [c_coBad, b1, decide_eq_true c2, Bool.not_true, Bool.not_false, Bool.and_true, Bool.true_and, Bool.and_false, Bool.false_and, Bool.or_true, Bool.true_or, Bool.or_false, Bool.false_or, Bool.and_self, Bool.or_self, eq_self, if_true, Bool.false_eq_true, if_false])); unfold k_correct; rw [hB]; exact ⟨L, rfl, hC, rfl⟩) (rfl) (Nat.le_of_ble_eq_true rfl) (Nat.le_of_ble_eq_true rfl) dX10_correct_22
    · refine lv_iload_n hx hb dX10_correct_16 rfl (lv_at hl 3 rfl) ?_
      refine lv_iconst (v := 5) hx hb dX10_correct_17 (by decide) ?_
      refine lv_icmp_lt (tgt := 23) hx hb dX10_correct_18 (by decide) (fun c3 => ?_) (fun c3 => ?_)
      · refine lv_iload_n hx hb dX10_correct_23 rfl (lv_at hl 4 rfl) ?_
        refine lv_if_lt (tgt := 46) hx hb dX10_correct_24 (by decide) (fun c4 => ?_) (fun c4 => ?_)
        · refine lv_iconst (v := 0) hx hb dX10_correct_46 (by decide) ?_
          exact ct_rz hx hb hr hlocks hS (by (have hB : (c_coBad σ e f x) = true := (by simp only [c_coBad, b1, decide_eq_false c2, decide_eq_true c3, decide_eq_true c4, Bool.not_true, Bool.not_false, Bool.and_true, Bool.true_and, Bool.and_false, Bool.false_and, Bool.or_true, Bool.true_or, Bool.or_false, Bool.false_or, Bool.and_self, Bool.or_self, eq_self, if_true, Bool.false_eq_true, if_false])); unfold k_correct; rw [hB]; exact ⟨L, rfl, hC, rfl⟩) (rfl) (Nat.le_of_ble_eq_true rfl) (Nat.le_of_ble_eq_true rfl) dX10_correct_47
        · refine lv_iload_n hx hb dX10_correct_27 rfl (lv_at hl 4 rfl) ?_
          refine lv_sipush (v := 20000) hx hb dX10_correct_28 (by decide) ?_
          refine lv_icmp_gt (tgt := 46) hx hb dX10_correct_31 (by decide) (fun c5 => ?_) (fun c5 => ?_)
          · refine lv_iconst (v := 0) hx hb dX10_correct_46 (by decide) ?_
            exact ct_rz hx hb hr hlocks hS (by (have hB : (c_coBad σ e f x) = true := (by simp only [c_coBad, b1, decide_eq_false c2, decide_eq_true c3, decide_eq_false c4, decide_eq_true c5, Bool.not_true, Bool.not_false, Bool.and_true, Bool.true_and, Bool.and_false, Bool.false_and, Bool.or_true, Bool.true_or, Bool.or_false, Bool.false_or, Bool.and_self, Bool.or_self, eq_self, if_true, Bool.false_eq_true, if_false])); unfold k_correct; rw [hB]; exact ⟨L, rfl, hC, rfl⟩) (rfl) (Nat.le_of_ble_eq_true rfl) (Nat.le_of_ble_eq_true rfl) dX10_correct_47
          · refine lv_aload_n hx hb dX10_correct_34 rfl (lv_at hl 1 rfl) ?_
            refine rd_get (k := 10) (v := .ref (L 9 5)) hx hb hown hu hE ok11 (cd_reg hC) (by decide) u147 (fun _ h => h) rfl dX10_correct_35 ?_
            refine cr_V (As := []) (rest := []) hx hb hml hown hu hE (c_LS5 l E A σ L) kJx4a65c_size_8abf5 u266 ((cd_lex hC (j := 5) (by omega)).choose_spec) rfl rfl (⟨hC, hI⟩) ⟨Nat.le_of_ble_eq_true rfl, Nat.le_of_ble_eq_true rfl⟩ rfl hl.1 rfl (Nat.le_of_ble_eq_true rfl) ⟨Nat.le_of_ble_eq_true rfl, Nat.le_of_ble_eq_true rfl⟩ dX10_correct_38 ?_
            refine lv_bipush (v := 100) hx hb dX10_correct_41 (by decide) ?_
            refine lv_icmp_lt (tgt := 48) hx hb dX10_correct_43 (by decide) (fun c6 => ?_) (fun c6 => ?_)
            · refine lv_aload_n hx hb dX10_correct_48 rfl (lv_at hl 1 rfl) ?_
              refine rd_get (k := 10) (v := .ref (L 9 5)) hx hb hown hu hE ok11 (cd_reg hC) (by decide) u147 (fun _ h => h) rfl dX10_correct_49 ?_
              obtain ⟨nw, hnw⟩ : ∃ z : Nat, z = s.heap.size := ⟨_, rfl⟩
              have hAnw : A nw := hA nw (by rw [hnw]; exact hS.1)
              have hsz := hS.1
              have hlt : ∀ k i, cv σ k i → L k i < s.heap.size := fun k i hv => cd_lt hC hv
              refine nw_new (fs := df2) hx hb hown hu hE ok2 hS u690 dfl2 (Nat.le_of_ble_eq_true rfl) (Nat.le_of_ble_eq_true rfl) dX10_correct_52 (fun H1 ho hz oq hS => ?_)
              rw [← hnw] at ho hz oq hlt ⊢
              have hC := cd_kept hC (fun k i hv => oq _ (hlt k i hv))
              have hfr : ∀ k i, cv σ k i → L k i ≠ nw := fun k i hv => Nat.ne_of_lt (hlt k i hv)
              refine lv_dup hx hb dX10_correct_55 rfl ?_
              refine lv_iload_n hx hb dX10_correct_56 rfl (lv_at hl 2 rfl) ?_
              refine lv_iload_n hx hb dX10_correct_57 rfl (lv_at hl 3 rfl) ?_
              refine lv_iload_n hx hb dX10_correct_58 rfl (lv_at hl 4 rfl) ?_
              refine lv_aload_n hx hb dX10_correct_59 rfl (lv_at hl 1 rfl) ?_
              refine rd_get (k := 0) (v := .int (σ 0 0)) hx hb hown hu hE ok11 (cd_reg hC) (by decide) u137 (fun _ h => h) rfl dX10_correct_60 ?_
              refine ct_I (As := [.int e, .int f, .int x, .int (σ 0 0)]) (rest := [.ref nw, .ref (L 9 5)]) hx hb hml hown hu hE hZ hS (fun _ h => h) (fun q h => hA q (Nat.le_trans hS.1 h)) (i_Cor l E A H1 nw e f x (σ 0 0)) kX1_init u692 (⟨rfl, ho, hAnw⟩) ⟨Nat.le_of_ble_eq_true rfl, Nat.le_of_ble_eq_true rfl⟩ rfl hl.1 rfl (Nat.le_of_ble_eq_true rfl) ⟨Nat.le_of_ble_eq_true rfl, Nat.le_of_ble_eq_true rfl⟩ dX10_correct_63 (fun v7 H1 locs1 hR hS hz hk => ?_)
              obtain ⟨rfl, ho, oq⟩ := hR
              have hC := cd_kept hC (fun k i hv => oq _ (by have := hlt k i hv; omega) (hfr k i hv))
              refine ct_V (As := [.ref nw]) (rest := []) hx hb hml hown hu hE hZ hS (fun _ h => h) (fun q h => hA q (Nat.le_trans hS.1 h)) (x_add l E A H1 σ L 25 35 5 nw ([.int e, .int f, .int x, .int (σ 0 0)])) kJx4a65c_add_9ea2d u335 ((cd_lex hC (j := 5) (by omega)).choose_spec) rfl rfl (⟨rfl, hC, hI, hK, Or.inr (Or.inr (Or.inr (Or.inr (Or.inr (Or.inl ⟨rfl, rfl, rfl⟩))))), (by omega), (Nat.lt_of_lt_of_le (lt_cnt (t := 35) hI.1.2.2.2.2.2.2.2.2 c6 (K := 100) rfl) (by decide)), (by rw [show kci 25 = 2 from rfl]; exact ho), hfr⟩) ⟨Nat.le_of_ble_eq_true rfl, Nat.le_of_ble_eq_true rfl⟩ rfl hl.1 rfl (Nat.le_of_ble_eq_true rfl) ⟨Nat.le_of_ble_eq_true rfl, Nat.le_of_ble_eq_true rfl⟩ dX10_correct_66 (fun v8 H1 locs1 hR hS hz hk => ?_)
              obtain ⟨rfl, hg⟩ := hR
              refine lv_pop hx hb dX10_correct_69 rfl ?_
              refine lv_iconst (v := 1) hx hb dX10_correct_70 (by decide) ?_
              exact ct_rz hx hb hr hlocks hS (by (have hB : (c_coBad σ e f x) = false := (by simp only [c_coBad, b1, decide_eq_false c2, decide_eq_true c3, decide_eq_false c4, decide_eq_false c5, decide_eq_true c6, Bool.not_true, Bool.not_false, Bool.and_true, Bool.true_and, Bool.and_false, Bool.false_and, Bool.or_true, Bool.true_or, Bool.or_false, Bool.false_or, Bool.and_self, Bool.or_self, eq_self, if_true, Bool.false_eq_true, if_false])); obtain ⟨L1, c1, c2⟩ := cl_cor hC hI hK hJ hg hAnw hfr ho; unfold k_correct; rw [hB]; exact ⟨L1, rfl, c1, c2⟩) (rfl) (Nat.le_of_ble_eq_true rfl) (Nat.le_of_ble_eq_true rfl) dX10_correct_71
            · refine lv_iconst (v := 0) hx hb dX10_correct_46 (by decide) ?_
              exact ct_rz hx hb hr hlocks hS (by (have hB : (c_coBad σ e f x) = true := (by simp only [c_coBad, b1, decide_eq_false c2, decide_eq_true c3, decide_eq_false c4, decide_eq_false c5, decide_eq_false c6, Bool.not_true, Bool.not_false, Bool.and_true, Bool.true_and, Bool.and_false, Bool.false_and, Bool.or_true, Bool.true_or, Bool.or_false, Bool.false_or, Bool.and_self, Bool.or_self, eq_self, if_true, Bool.false_eq_true, if_false])); unfold k_correct; rw [hB]; exact ⟨L, rfl, hC, rfl⟩) (rfl) (Nat.le_of_ble_eq_true rfl) (Nat.le_of_ble_eq_true rfl) dX10_correct_47
      · refine lv_iconst (v := 0) hx hb dX10_correct_21 (by decide) ?_
        exact ct_rz hx hb hr hlocks hS (by (have hB : (c_coBad σ e f x) = true := (by simp only [c_coBad, b1, decide_eq_false c2, decide_eq_false c3, Bool.not_true, Bool.not_false, Bool.and_true, Bool.true_and, Bool.and_false, Bool.false_and, Bool.or_true, Bool.true_or, Bool.or_false, Bool.false_or, Bool.and_self, Bool.or_self, eq_self, if_true, Bool.false_eq_true, if_false])); unfold k_correct; rw [hB]; exact ⟨L, rfl, hC, rfl⟩) (rfl) (Nat.le_of_ble_eq_true rfl) (Nat.le_of_ble_eq_true rfl) dX10_correct_22
  · refine lv_astoreN (lv' := [(4, .null), (0, .ref (L 0 0)), (1, .int e), (2, .int f), (3, .int x)]) hx hb dX10_correct_5 hl (by decide) rfl (fun ls hl => ?_)
    refine lv_aloadN hx hb dX10_correct_7 (lv_at hl 0 rfl) ?_
    refine lv_ifnullN (tgt := 21) hx hb dX10_correct_9 (by decide) ?_
    refine lv_iconst (v := 0) hx hb dX10_correct_21 (by decide) ?_
    exact ct_rz hx hb hr hlocks hS (by (have hB : (c_coBad σ e f x) = true := (by simp only [c_coBad, b1, Bool.not_true, Bool.not_false, Bool.and_true, Bool.true_and, Bool.and_false, Bool.false_and, Bool.or_true, Bool.true_or, Bool.or_false, Bool.false_or, Bool.and_self, Bool.or_self, eq_self, if_true, Bool.false_eq_true, if_false])); unfold k_correct; rw [hB]; exact ⟨L, rfl, hC, rfl⟩) (rfl) (Nat.le_of_ble_eq_true rfl) (Nat.le_of_ble_eq_true rfl) dX10_correct_22
