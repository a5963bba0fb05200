set_option maxHeartbeats 1000000 in
set_option maxRecDepth 20000 in
theorem x_isDay (l : Launch) (E : EV) (d : Int32) : Cr l E yX10_isDay cX10_isDay 1 (some .boolean) 0 0 [.int d] (fun H => True) (some (.int (bI (m_in d 0 20000)))) := by
  refine Cr.of (by decide +kernel) (Nat.le_of_ble_eq_true rfl) (fun pg ev s mi bel mth cd hx hb hr hml hown hu hlocks hE hP ls hl => ?_)
  have hl : lv_has ls 1 [(0, .int d)] := hl
  refine lv_iload_n hx hb dX10_isDay_0 rfl (lv_at hl 0 rfl) ?_
  refine lv_if_lt (tgt := 15) hx hb dX10_isDay_1 (by decide) (fun c1 => ?_) (fun c1 => ?_)
  · refine lv_iconst (v := 0) hx hb dX10_isDay_15 (by decide) ?_
    exact cr_rz hx hb hr hlocks (by simp only [m_in, decide_eq_true c1, Bool.not_true, Bool.not_false, Bool.and_true, Bool.true_and, Bool.and_false, Bool.false_and, Bool.or_true, Bool.true_or, Bool.or_false, Bool.false_or, Bool.and_self, Bool.or_self, eq_self, if_true, Bool.false_eq_true, if_false] <;> rfl) (rfl) dX10_isDay_16
  · refine lv_iload_n hx hb dX10_isDay_4 rfl (lv_at hl 0 rfl) ?_
    refine lv_sipush (v := 20000) hx hb dX10_isDay_5 (by decide) ?_
    refine lv_icmp_gt (tgt := 15) hx hb dX10_isDay_8 (by decide) (fun c2 => ?_) (fun c2 => ?_)
    · refine lv_iconst (v := 0) hx hb dX10_isDay_15 (by decide) ?_
      exact cr_rz hx hb hr hlocks (by simp only [m_in, decide_eq_false c1, decide_eq_true c2, Bool.not_true, Bool.not_false, Bool.and_true, Bool.true_and, Bool.and_false, Bool.false_and, Bool.or_true, Bool.true_or, Bool.or_false, Bool.false_or, Bool.and_self, Bool.or_self, eq_self, if_true, Bool.false_eq_true, if_false] <;> rfl) (rfl) dX10_isDay_16
    · refine lv_iconst (v := 1) hx hb dX10_isDay_11 (by decide) ?_
      refine lv_goto (tgt := 16) hx hb dX10_isDay_12 (by decide) ?_
      exact cr_rz hx hb hr hlocks (by simp only [m_in, decide_eq_false c1, decide_eq_false c2, Bool.not_true, Bool.not_false, Bool.and_true, Bool.true_and, Bool.and_false, Bool.false_and, Bool.or_true, Bool.true_or, Bool.or_false, Bool.false_or, Bool.and_self, Bool.or_self, eq_self, if_true, Bool.false_eq_true, if_false] <;> rfl) (rfl) dX10_isDay_16
set_option maxHeartbeats 1000000 in
set_option maxRecDepth 20000 in
theorem x_isDayTC (l : Launch) (E : EV) (A : Nat → Prop) (σ : St) (L : Nat → Nat → Nat) (d : Int32) : Cr l E yX10_isDayToCome cX10_isDayToCome 2 (some .boolean) 0 0 [.ref (L 0 0), .int d] (fun H => Cd E A σ L H ∧ InvM σ) (some (.int (bI (m_in d (σ 0 0) 20000)))) := by
  refine Cr.of (by decide +kernel) (Nat.le_of_ble_eq_true rfl) (fun pg ev s mi bel mth cd hx hb hr hml hown hu hlocks hE hP ls hl => ?_)
  have hl : lv_has ls 2 [(0, .ref (L 0 0)), (1, .int d)] := hl
  obtain ⟨hC, hI⟩ := hP
  refine lv_iload_n hx hb dX10_isDayToCome_0 rfl (lv_at hl 1 rfl) ?_
  refine lv_aload_n hx hb dX10_isDayToCome_1 rfl (lv_at hl 0 rfl) ?_
  refine rd_get (k := 0) (v := .int (σ 0 0)) hx hb hown hu hE ok11 (cd_reg hC) (by decide) u137 (fun _ h => h) rfl dX10_isDayToCome_2 ?_
  refine lv_icmp_lt (tgt := 19) hx hb dX10_isDayToCome_5 (by decide) (fun c1 => ?_) (fun c1 => ?_)
  · refine lv_iconst (v := 0) hx hb dX10_isDayToCome_19 (by decide) ?_
    exact cr_rz hx hb hr hlocks (by simp only [m_in, decide_eq_true c1, Bool.not_true, Bool.not_false, Bool.and_true, Bool.true_and, Bool.and_false, Bool.false_and, Bool.or_true, Bool.true_or, Bool.or_false, Bool.false_or, Bool.and_self, Bool.or_self, eq_self, if_true, Bool.false_eq_true, if_false] <;> rfl) (rfl) dX10_isDayToCome_20
  · refine lv_iload_n hx hb dX10_isDayToCome_8 rfl (lv_at hl 1 rfl) ?_
    refine lv_sipush (v := 20000) hx hb dX10_isDayToCome_9 (by decide) ?_
    refine lv_icmp_gt (tgt := 19) hx hb dX10_isDayToCome_12 (by decide) (fun c2 => ?_) (fun c2 => ?_)
    · refine lv_iconst (v := 0) hx hb dX10_isDayToCome_19 (by decide) ?_
      exact cr_rz hx hb hr hlocks (by simp only [m_in, decide_eq_false c1, decide_eq_true c2, Bool.not_true, Bool.not_false, Bool.and_true, Bool.true_and, Bool.and_false, Bool.false_and, Bool.or_true, Bool.true_or, Bool.or_false, Bool.false_or, Bool.and_self, Bool.or_self, eq_self, if_true, Bool.false_eq_true, if_false] <;> rfl) (rfl) dX10_isDayToCome_20
    · refine lv_iconst (v := 1) hx hb dX10_isDayToCome_15 (by decide) ?_
      refine lv_goto (tgt := 20) hx hb dX10_isDayToCome_16 (by decide) ?_
      exact cr_rz hx hb hr hlocks (by simp only [m_in, decide_eq_false c1, decide_eq_false c2, Bool.not_true, Bool.not_false, Bool.and_true, Bool.true_and, Bool.and_false, Bool.false_and, Bool.or_true, Bool.true_or, Bool.or_false, Bool.false_or, Bool.and_self, Bool.or_self, eq_self, if_true, Bool.false_eq_true, if_false] <;> rfl) (rfl) dX10_isDayToCome_20
set_option maxHeartbeats 1000000 in
set_option maxRecDepth 20000 in
theorem x_perAt (l : Launch) (E : EV) (A : Nat → Prop) (σ : St) (L : Nat → Nat → Nat) (x : Int32) : Cr l E yX10_personAt cX10_personAt 2 (some (.object "WeddingRegister$Person")) 3 64 [.ref (L 0 0), .int x] (fun H => Cd E A σ L H ∧ InvM σ) (some (va_rf (if m_isP σ x then some (L 21 x.toNatClampNeg) else none))) := by
  refine Cr.of (by decide +kernel) (Nat.le_of_ble_eq_true rfl) (fun pg ev s mi bel mth cd hx hb hr hml hown hu hlocks hE hP ls hl => ?_)
  have hl : lv_has ls 2 [(0, .ref (L 0 0)), (1, .int x)] := hl
  obtain ⟨hC, hI⟩ := hP
  refine lv_iload_n hx hb dX10_personAt_0 rfl (lv_at hl 1 rfl) ?_
  refine lv_if_lt (tgt := 29) hx hb dX10_personAt_1 (by decide) (fun c1 => ?_) (fun c1 => ?_)
  · refine lv_null hx hb dX10_personAt_29 ?_
    exact cr_ra hx hb hr (Or.inl ⟨_, rfl⟩) (Or.inl rfl) hlocks (by (have hB : m_isP σ x = false := (by rw [isP_eq hI]; simp only [decide_eq_true c1, Bool.not_true, Bool.not_false, Bool.and_true, Bool.true_and, Bool.and_false, Bool.false_and, Bool.or_true, Bool.true_or, Bool.or_false, Bool.false_or, Bool.and_self, Bool.or_self, eq_self, if_true, Bool.false_eq_true, if_false])); rw [hB]; rfl) dX10_personAt_30
  · refine lv_iload_n hx hb dX10_personAt_4 rfl (lv_at hl 1 rfl) ?_
    refine lv_aload_n hx hb dX10_personAt_5 rfl (lv_at hl 0 rfl) ?_
    refine rd_get (k := 6) (v := .ref (L 9 1)) hx hb hown hu hE ok11 (cd_reg hC) (by decide) u143 (fun _ h => h) rfl dX10_personAt_6 ?_
    refine cr_V (As := []) (rest := [.int x]) hx hb hml hown hu hE (c_LS1 l E A σ L) kJx4a65c_size_8abf5 u266 ((cd_lex hC (j := 1) (by omega)).choose_spec) rfl rfl (⟨hC, hI⟩) ⟨Nat.le_of_ble_eq_true rfl, Nat.le_of_ble_eq_true rfl⟩ rfl hl.1 rfl (Nat.le_of_ble_eq_true rfl) ⟨Nat.le_of_ble_eq_true rfl, Nat.le_of_ble_eq_true rfl⟩ dX10_personAt_9 ?_
    refine lv_icmp_ge (tgt := 29) hx hb dX10_personAt_12 (by decide) (fun c2 => ?_) (fun c2 => ?_)
    · refine lv_null hx hb dX10_personAt_29 ?_
      exact cr_ra hx hb hr (Or.inl ⟨_, rfl⟩) (Or.inl rfl) hlocks (by (have hB : m_isP σ x = false := (by rw [isP_eq hI]; simp only [decide_eq_false c1, decide_eq_false (Int32.not_lt.mpr c2), Bool.not_true, Bool.not_false, Bool.and_true, Bool.true_and, Bool.and_false, Bool.false_and, Bool.or_true, Bool.true_or, Bool.or_false, Bool.false_or, Bool.and_self, Bool.or_self, eq_self, if_true, Bool.false_eq_true, if_false])); rw [hB]; rfl) dX10_personAt_30
    · refine lv_aload_n hx hb dX10_personAt_15 rfl (lv_at hl 0 rfl) ?_
      refine rd_get (k := 6) (v := .ref (L 9 1)) hx hb hown hu hE ok11 (cd_reg hC) (by decide) u143 (fun _ h => h) rfl dX10_personAt_16 ?_
      refine lv_iload_n hx hb dX10_personAt_19 rfl (lv_at hl 1 rfl) ?_
      refine cr_V (As := [.int x]) (rest := []) hx hb hml hown hu hE (c_LG1 l E A σ L x) kJx4a65c_get_915e3 u275 ((cd_lex hC (j := 1) (by omega)).choose_spec) rfl rfl (⟨hC, in_ok c1 c2⟩) ⟨Nat.le_of_ble_eq_true rfl, Nat.le_of_ble_eq_true rfl⟩ rfl hl.1 rfl (Nat.le_of_ble_eq_true rfl) ⟨Nat.le_of_ble_eq_true rfl, Nat.le_of_ble_eq_true rfl⟩ dX10_personAt_20 ?_
      refine cl_cast hx hb hown hu hE ok10 u289 (cd_per hC (okP_lt (in_ok c1 c2))) dX10_personAt_23 ?_
      refine lv_goto (tgt := 30) hx hb dX10_personAt_26 (by decide) ?_
      exact cr_ra hx hb hr (Or.inl ⟨_, rfl⟩) (Or.inr ⟨_, rfl⟩) hlocks (by (have hB : m_isP σ x = true := (by rw [isP_eq hI]; simp only [decide_eq_false c1, decide_eq_true (Int32.not_le.mp c2), Bool.not_true, Bool.not_false, Bool.and_true, Bool.true_and, Bool.and_false, Bool.false_and, Bool.or_true, Bool.true_or, Bool.or_false, Bool.false_or, Bool.and_self, Bool.or_self, eq_self, if_true, Bool.false_eq_true, if_false])); rw [hB]; rfl) dX10_personAt_30
set_option maxHeartbeats 1000000 in
set_option maxRecDepth 20000 in
theorem x_notAt (l : Launch) (E : EV) (A : Nat → Prop) (σ : St) (L : Nat → Nat → Nat) (x : Int32) : Cr l E yX10_noticeAt cX10_noticeAt 2 (some (.object "WeddingRegister$Notice")) 3 64 [.ref (L 0 0), .int x] (fun H => Cd E A σ L H ∧ InvM σ) (some (va_rf (if m_isN σ x then some (L 22 x.toNatClampNeg) else none))) := by
  refine Cr.of (by decide +kernel) (Nat.le_of_ble_eq_true rfl) (fun pg ev s mi bel mth cd hx hb hr hml hown hu hlocks hE hP ls hl => ?_)
  have hl : lv_has ls 2 [(0, .ref (L 0 0)), (1, .int x)] := hl
  obtain ⟨hC, hI⟩ := hP
  refine lv_iload_n hx hb dX10_noticeAt_0 rfl (lv_at hl 1 rfl) ?_
  refine lv_if_lt (tgt := 29) hx hb dX10_noticeAt_1 (by decide) (fun c1 => ?_) (fun c1 => ?_)
  · refine lv_null hx hb dX10_noticeAt_29 ?_
    exact cr_ra hx hb hr (Or.inl ⟨_, rfl⟩) (Or.inl rfl) hlocks (by (have hB : m_isN σ x = false := (by rw [isN_eq hI]; simp only [decide_eq_true c1, Bool.not_true, Bool.not_false, Bool.and_true, Bool.true_and, Bool.and_false, Bool.false_and, Bool.or_true, Bool.true_or, Bool.or_false, Bool.false_or, Bool.and_self, Bool.or_self, eq_self, if_true, Bool.false_eq_true, if_false])); rw [hB]; rfl) dX10_noticeAt_30
  · refine lv_iload_n hx hb dX10_noticeAt_4 rfl (lv_at hl 1 rfl) ?_
    refine lv_aload_n hx hb dX10_noticeAt_5 rfl (lv_at hl 0 rfl) ?_
    refine rd_get (k := 7) (v := .ref (L 9 2)) hx hb hown hu hE ok11 (cd_reg hC) (by decide) u144 (fun _ h => h) rfl dX10_noticeAt_6 ?_
    refine cr_V (As := []) (rest := [.int x]) hx hb hml hown hu hE (c_LS2 l E A σ L) kJx4a65c_size_8abf5 u266 ((cd_lex hC (j := 2) (by omega)).choose_spec) rfl rfl (⟨hC, hI⟩) ⟨Nat.le_of_ble_eq_true rfl, Nat.le_of_ble_eq_true rfl⟩ rfl hl.1 rfl (Nat.le_of_ble_eq_true rfl) ⟨Nat.le_of_ble_eq_true rfl, Nat.le_of_ble_eq_true rfl⟩ dX10_noticeAt_9 ?_
    refine lv_icmp_ge (tgt := 29) hx hb dX10_noticeAt_12 (by decide) (fun c2 => ?_) (fun c2 => ?_)
    · refine lv_null hx hb dX10_noticeAt_29 ?_
      exact cr_ra hx hb hr (Or.inl ⟨_, rfl⟩) (Or.inl rfl) hlocks (by (have hB : m_isN σ x = false := (by rw [isN_eq hI]; simp only [decide_eq_false c1, decide_eq_false (Int32.not_lt.mpr c2), Bool.not_true, Bool.not_false, Bool.and_true, Bool.true_and, Bool.and_false, Bool.false_and, Bool.or_true, Bool.true_or, Bool.or_false, Bool.false_or, Bool.and_self, Bool.or_self, eq_self, if_true, Bool.false_eq_true, if_false])); rw [hB]; rfl) dX10_noticeAt_30
    · refine lv_aload_n hx hb dX10_noticeAt_15 rfl (lv_at hl 0 rfl) ?_
      refine rd_get (k := 7) (v := .ref (L 9 2)) hx hb hown hu hE ok11 (cd_reg hC) (by decide) u144 (fun _ h => h) rfl dX10_noticeAt_16 ?_
      refine lv_iload_n hx hb dX10_noticeAt_19 rfl (lv_at hl 1 rfl) ?_
      refine cr_V (As := [.int x]) (rest := []) hx hb hml hown hu hE (c_LG2 l E A σ L x) kJx4a65c_get_915e3 u275 ((cd_lex hC (j := 2) (by omega)).choose_spec) rfl rfl (⟨hC, in_ok c1 c2⟩) ⟨Nat.le_of_ble_eq_true rfl, Nat.le_of_ble_eq_true rfl⟩ rfl hl.1 rfl (Nat.le_of_ble_eq_true rfl) ⟨Nat.le_of_ble_eq_true rfl, Nat.le_of_ble_eq_true rfl⟩ dX10_noticeAt_20 ?_
      refine cl_cast hx hb hown hu hE ok7 u437 (cd_not hC (okN_lt (in_ok c1 c2))) dX10_noticeAt_23 ?_
      refine lv_goto (tgt := 30) hx hb dX10_noticeAt_26 (by decide) ?_
      exact cr_ra hx hb hr (Or.inl ⟨_, rfl⟩) (Or.inr ⟨_, rfl⟩) hlocks (by (have hB : m_isN σ x = true := (by rw [isN_eq hI]; simp only [decide_eq_false c1, decide_eq_true (Int32.not_le.mp c2), Bool.not_true, Bool.not_false, Bool.and_true, Bool.true_and, Bool.and_false, Bool.false_and, Bool.or_true, Bool.true_or, Bool.or_false, Bool.false_or, Bool.and_self, Bool.or_self, eq_self, if_true, Bool.false_eq_true, if_false])); rw [hB]; rfl) dX10_noticeAt_30
set_option maxHeartbeats 1000000 in
set_option maxRecDepth 20000 in
theorem x_entAt (l : Launch) (E : EV) (A : Nat → Prop) (σ : St) (L : Nat → Nat → Nat) (x : Int32) : Cr l E yX10_entryAt cX10_entryAt 2 (some (.object "WeddingRegister$Entry")) 3 64 [.ref (L 0 0), .int x] (fun H => Cd E A σ L H ∧ InvM σ) (some (va_rf (if m_in x 0 (σ 30 0 - 1) then some (L 24 x.toNatClampNeg) else none))) := by
  refine Cr.of (by decide +kernel) (Nat.le_of_ble_eq_true rfl) (fun pg ev s mi bel mth cd hx hb hr hml hown hu hlocks hE hP ls hl => ?_)
  have hl : lv_has ls 2 [(0, .ref (L 0 0)), (1, .int x)] := hl
  obtain ⟨hC, hI⟩ := hP
  refine lv_iload_n hx hb dX10_entryAt_0 rfl (lv_at hl 1 rfl) ?_
  refine lv_if_lt (tgt := 29) hx hb dX10_entryAt_1 (by decide) (fun c1 => ?_) (fun c1 => ?_)
  · refine lv_null hx hb dX10_entryAt_29 ?_
    exact cr_ra hx hb hr (Or.inl ⟨_, rfl⟩) (Or.inl rfl) hlocks (by (have hB : m_in x 0 (σ 30 0 - 1) = false := (by rw [isE_eq hI]; simp only [decide_eq_true c1, Bool.not_true, Bool.not_false, Bool.and_true, Bool.true_and, Bool.and_false, Bool.false_and, Bool.or_true, Bool.true_or, Bool.or_false, Bool.false_or, Bool.and_self, Bool.or_self, eq_self, if_true, Bool.false_eq_true, if_false])); rw [hB]; rfl) dX10_entryAt_30
  · refine lv_iload_n hx hb dX10_entryAt_4 rfl (lv_at hl 1 rfl) ?_
    refine lv_aload_n hx hb dX10_entryAt_5 rfl (lv_at hl 0 rfl) ?_
    refine rd_get (k := 9) (v := .ref (L 9 4)) hx hb hown hu hE ok11 (cd_reg hC) (by decide) u146 (fun _ h => h) rfl dX10_entryAt_6 ?_
    refine cr_V (As := []) (rest := [.int x]) hx hb hml hown hu hE (c_LS4 l E A σ L) kJx4a65c_size_8abf5 u266 ((cd_lex hC (j := 4) (by omega)).choose_spec) rfl rfl (⟨hC, hI⟩) ⟨Nat.le_of_ble_eq_true rfl, Nat.le_of_ble_eq_true rfl⟩ rfl hl.1 rfl (Nat.le_of_ble_eq_true rfl) ⟨Nat.le_of_ble_eq_true rfl, Nat.le_of_ble_eq_true rfl⟩ dX10_entryAt_9 ?_
    refine lv_icmp_ge (tgt := 29) hx hb dX10_entryAt_12 (by decide) (fun c2 => ?_) (fun c2 => ?_)
    · refine lv_null hx hb dX10_entryAt_29 ?_
      exact cr_ra hx hb hr (Or.inl ⟨_, rfl⟩) (Or.inl rfl) hlocks (by (have hB : m_in x 0 (σ 30 0 - 1) = false := (by rw [isE_eq hI]; simp only [decide_eq_false c1, decide_eq_false (Int32.not_lt.mpr c2), Bool.not_true, Bool.not_false, Bool.and_true, Bool.true_and, Bool.and_false, Bool.false_and, Bool.or_true, Bool.true_or, Bool.or_false, Bool.false_or, Bool.and_self, Bool.or_self, eq_self, if_true, Bool.false_eq_true, if_false])); rw [hB]; rfl) dX10_entryAt_30
    · refine lv_aload_n hx hb dX10_entryAt_15 rfl (lv_at hl 0 rfl) ?_
      refine rd_get (k := 9) (v := .ref (L 9 4)) hx hb hown hu hE ok11 (cd_reg hC) (by decide) u146 (fun _ h => h) rfl dX10_entryAt_16 ?_
      refine lv_iload_n hx hb dX10_entryAt_19 rfl (lv_at hl 1 rfl) ?_
      refine cr_V (As := [.int x]) (rest := []) hx hb hml hown hu hE (c_LG4 l E A σ L x) kJx4a65c_get_915e3 u275 ((cd_lex hC (j := 4) (by omega)).choose_spec) rfl rfl (⟨hC, in_ok c1 c2⟩) ⟨Nat.le_of_ble_eq_true rfl, Nat.le_of_ble_eq_true rfl⟩ rfl hl.1 rfl (Nat.le_of_ble_eq_true rfl) ⟨Nat.le_of_ble_eq_true rfl, Nat.le_of_ble_eq_true rfl⟩ dX10_entryAt_20 ?_
      refine cl_cast hx hb hown hu hE ok4 u647 (cd_ent hC (okE_lt (in_ok c1 c2))) dX10_entryAt_23 ?_
      refine lv_goto (tgt := 30) hx hb dX10_entryAt_26 (by decide) ?_
      exact cr_ra hx hb hr (Or.inl ⟨_, rfl⟩) (Or.inr ⟨_, rfl⟩) hlocks (by (have hB : m_in x 0 (σ 30 0 - 1) = true := (by rw [isE_eq hI]; simp only [decide_eq_false c1, decide_eq_true (Int32.not_le.mp c2), Bool.not_true, Bool.not_false, Bool.and_true, Bool.true_and, Bool.and_false, Bool.false_and, Bool.or_true, Bool.true_or, Bool.or_false, Bool.false_or, Bool.and_self, Bool.or_self, eq_self, if_true, Bool.false_eq_true, if_false])); rw [hB]; rfl) dX10_entryAt_30
set_option maxHeartbeats 1000000 in
set_option maxRecDepth 20000 in
theorem x_cbp (l : Launch) (E : EV) (A : Nat → Prop) (σ : St) (L : Nat → Nat → Nat) (f mo : Int32) : Cr l E yX10_canBeParents cX10_canBeParents 5 (some .boolean) 4 85 [.ref (L 0 0), .int f, .int mo] (fun H => Cd E A σ L H ∧ InvM σ) (some (.int (bI (c_cbp σ f mo)))) := by
  refine Cr.of (by decide +kernel) (Nat.le_of_ble_eq_true rfl) (fun pg ev s mi bel mth cd hx hb hr hml hown hu hlocks hE hP ls hl => ?_)
  have hl : lv_has ls 5 [(0, .ref (L 0 0)), (1, .int f), (2, .int mo)] := hl
  obtain ⟨hC, hI⟩ := hP
  refine lv_iload_n hx hb dX10_canBeParents_0 rfl (lv_at hl 1 rfl) ?_
  refine lv_iconst (v := (-1)) hx hb dX10_canBeParents_1 (by decide) ?_
  refine lv_icmp_eq (tgt := 13) hx hb dX10_canBeParents_2 (by decide) (fun c1 => ?_) (fun c1 => ?_)
  · refine lv_iconst (v := 1) hx hb dX10_canBeParents_13 (by decide) ?_
    refine lv_goto (tgt := 18) hx hb dX10_canBeParents_14 (by decide) ?_
    refine lv_istore_n (lv' := [(3, .int 1), (0, .ref (L 0 0)), (1, .int f), (2, .int mo)]) hx hb dX10_canBeParents_18 rfl hl (by decide) rfl (fun ls hl => ?_)
    refine lv_iload_n hx hb dX10_canBeParents_19 rfl (lv_at hl 3 rfl) ?_
    refine lv_iconst (v := (-1)) hx hb dX10_canBeParents_20 (by decide) ?_
    refine lv_icmp_eq (tgt := 32) hx hb dX10_canBeParents_21 (by decide) (fun c2 => ?_) (fun c2 => ?_)
    · refine lv_iconst (v := 1) hx hb dX10_canBeParents_32 (by decide) ?_
      refine lv_goto (tgt := 37) hx hb dX10_canBeParents_33 (by decide) ?_
      refine lv_istore (lv' := [(4, .int 1), (3, .int 1), (0, .ref (L 0 0)), (1, .int f), (2, .int mo)]) hx hb dX10_canBeParents_37 hl (by decide) rfl (fun ls hl => ?_)
      refine lv_iload_n hx hb dX10_canBeParents_39 rfl (lv_at hl 1 rfl) ?_
      refine lv_if_eq (tgt := 62) hx hb dX10_canBeParents_40 (by decide) (fun c3 => absurd c3 (by decide)) (fun _ => ?_)
      refine lv_iload hx hb dX10_canBeParents_43 (lv_at hl 0 rfl) ?_
      refine lv_if_eq (tgt := 62) hx hb dX10_canBeParents_45 (by decide) (fun c4 => absurd c4 (by decide)) (fun _ => ?_)
      refine lv_iload_n hx hb dX10_canBeParents_48 rfl (lv_at hl 3 rfl) ?_
      refine lv_iconst (v := (-1)) hx hb dX10_canBeParents_49 (by decide) ?_
      refine lv_icmp_eq (tgt := 58) hx hb dX10_canBeParents_50 (by decide) (fun _ => ?_) (fun c5 => absurd c1 c5)
      refine lv_iconst (v := 1) hx hb dX10_canBeParents_58 (by decide) ?_
      refine lv_goto (tgt := 63) hx hb dX10_canBeParents_59 (by decide) ?_
      exact cr_rz hx hb hr hlocks (by simp only [c_cbp, decide_eq_true c1, decide_eq_true c2, Bool.not_true, Bool.not_false, Bool.and_true, Bool.true_and, Bool.and_false, Bool.false_and, Bool.or_true, Bool.true_or, Bool.or_false, Bool.false_or, Bool.and_self, Bool.or_self, eq_self, if_true, Bool.false_eq_true, if_false] <;> rfl) (rfl) dX10_canBeParents_63
    · refine lv_aload_n hx hb dX10_canBeParents_24 rfl (lv_at hl 1 rfl) ?_
      refine lv_iload_n hx hb dX10_canBeParents_25 rfl (lv_at hl 3 rfl) ?_
      refine cr_V (As := [.int mo]) (rest := []) hx hb hml hown hu hE (x_perAt l E A σ L mo) kX10_personAt u271 (cd_reg hC) rfl rfl (⟨hC, hI⟩) ⟨Nat.le_of_ble_eq_true rfl, Nat.le_of_ble_eq_true rfl⟩ rfl hl.1 rfl (Nat.le_of_ble_eq_true rfl) ⟨Nat.le_of_ble_eq_true rfl, Nat.le_of_ble_eq_true rfl⟩ dX10_canBeParents_26 ?_
      refine onO (fun b6 => ?_) (fun b6 => ?_)
      · refine lv_ifnull hx hb dX10_canBeParents_29 ?_
        refine lv_iconst (v := 1) hx hb dX10_canBeParents_32 (by decide) ?_
        refine lv_goto (tgt := 37) hx hb dX10_canBeParents_33 (by decide) ?_
        refine lv_istore (lv' := [(4, .int 1), (3, .int 1), (0, .ref (L 0 0)), (1, .int f), (2, .int mo)]) hx hb dX10_canBeParents_37 hl (by decide) rfl (fun ls hl => ?_)
        refine lv_iload_n hx hb dX10_canBeParents_39 rfl (lv_at hl 1 rfl) ?_
        refine lv_if_eq (tgt := 62) hx hb dX10_canBeParents_40 (by decide) (fun c7 => absurd c7 (by decide)) (fun _ => ?_)
        refine lv_iload hx hb dX10_canBeParents_43 (lv_at hl 0 rfl) ?_
        refine lv_if_eq (tgt := 62) hx hb dX10_canBeParents_45 (by decide) (fun c8 => absurd c8 (by decide)) (fun _ => ?_)
        refine lv_iload_n hx hb dX10_canBeParents_48 rfl (lv_at hl 3 rfl) ?_
        refine lv_iconst (v := (-1)) hx hb dX10_canBeParents_49 (by decide) ?_
        refine lv_icmp_eq (tgt := 58) hx hb dX10_canBeParents_50 (by decide) (fun _ => ?_) (fun c9 => absurd c1 c9)
        refine lv_iconst (v := 1) hx hb dX10_canBeParents_58 (by decide) ?_
        refine lv_goto (tgt := 63) hx hb dX10_canBeParents_59 (by decide) ?_
        exact cr_rz hx hb hr hlocks (by simp only [c_cbp, decide_eq_true c1, decide_eq_false c2, b6, Bool.not_true, Bool.not_false, Bool.and_true, Bool.true_and, Bool.and_false, Bool.false_and, Bool.or_true, Bool.true_or, Bool.or_false, Bool.false_or, Bool.and_self, Bool.or_self, eq_self, if_true, Bool.false_eq_true, if_false] <;> rfl) (rfl) dX10_canBeParents_63
      · refine lv_ifnullN (tgt := 36) hx hb dX10_canBeParents_29 (by decide) ?_
        refine lv_iconst (v := 0) hx hb dX10_canBeParents_36 (by decide) ?_
        refine lv_istore (lv' := [(4, .int 0), (3, .int 1), (0, .ref (L 0 0)), (1, .int f), (2, .int mo)]) hx hb dX10_canBeParents_37 hl (by decide) rfl (fun ls hl => ?_)
        refine lv_iload_n hx hb dX10_canBeParents_39 rfl (lv_at hl 1 rfl) ?_
        refine lv_if_eq (tgt := 62) hx hb dX10_canBeParents_40 (by decide) (fun c10 => absurd c10 (by decide)) (fun _ => ?_)
        refine lv_iload hx hb dX10_canBeParents_43 (lv_at hl 0 rfl) ?_
        refine lv_if_eq (tgt := 62) hx hb dX10_canBeParents_45 (by decide) (fun _ => ?_) (fun c11 => absurd (by decide) c11)
        refine lv_iconst (v := 0) hx hb dX10_canBeParents_62 (by decide) ?_
        exact cr_rz hx hb hr hlocks (by simp only [c_cbp, decide_eq_true c1, decide_eq_false c2, b6, Bool.not_true, Bool.not_false, Bool.and_true, Bool.true_and, Bool.and_false, Bool.false_and, Bool.or_true, Bool.true_or, Bool.or_false, Bool.false_or, Bool.and_self, Bool.or_self, eq_self, if_true, Bool.false_eq_true, if_false] <;> rfl) (rfl) dX10_canBeParents_63
  · refine lv_aload_n hx hb dX10_canBeParents_5 rfl (lv_at hl 0 rfl) ?_
    refine lv_iload_n hx hb dX10_canBeParents_6 rfl (lv_at hl 1 rfl) ?_
    refine cr_V (As := [.int f]) (rest := []) hx hb hml hown hu hE (x_perAt l E A σ L f) kX10_personAt u271 (cd_reg hC) rfl rfl (⟨hC, hI⟩) ⟨Nat.le_of_ble_eq_true rfl, Nat.le_of_ble_eq_true rfl⟩ rfl hl.1 rfl (Nat.le_of_ble_eq_true rfl) ⟨Nat.le_of_ble_eq_true rfl, Nat.le_of_ble_eq_true rfl⟩ dX10_canBeParents_7 ?_
    refine onO (fun b12 => ?_) (fun b12 => ?_)
    · refine lv_ifnull hx hb dX10_canBeParents_10 ?_
      refine lv_iconst (v := 1) hx hb dX10_canBeParents_13 (by decide) ?_
      refine lv_goto (tgt := 18) hx hb dX10_canBeParents_14 (by decide) ?_
      refine lv_istore_n (lv' := [(3, .int 1), (0, .ref (L 0 0)), (1, .int f), (2, .int mo)]) hx hb dX10_canBeParents_18 rfl hl (by decide) rfl (fun ls hl => ?_)
      refine lv_iload_n hx hb dX10_canBeParents_19 rfl (lv_at hl 3 rfl) ?_
      refine lv_iconst (v := (-1)) hx hb dX10_canBeParents_20 (by decide) ?_
      refine lv_icmp_eq (tgt := 32) hx hb dX10_canBeParents_21 (by decide) (fun c13 => ?_) (fun c13 => ?_)
      · refine lv_iconst (v := 1) hx hb dX10_canBeParents_32 (by decide) ?_
        refine lv_goto (tgt := 37) hx hb dX10_canBeParents_33 (by decide) ?_
        refine lv_istore (lv' := [(4, .int 1), (3, .int 1), (0, .ref (L 0 0)), (1, .int f), (2, .int mo)]) hx hb dX10_canBeParents_37 hl (by decide) rfl (fun ls hl => ?_)
        refine lv_iload_n hx hb dX10_canBeParents_39 rfl (lv_at hl 1 rfl) ?_
        refine lv_if_eq (tgt := 62) hx hb dX10_canBeParents_40 (by decide) (fun c14 => absurd c14 (by decide)) (fun _ => ?_)
        refine lv_iload hx hb dX10_canBeParents_43 (lv_at hl 0 rfl) ?_
        refine lv_if_eq (tgt := 62) hx hb dX10_canBeParents_45 (by decide) (fun c15 => absurd c15 (by decide)) (fun _ => ?_)
        refine lv_iload_n hx hb dX10_canBeParents_48 rfl (lv_at hl 3 rfl) ?_
        refine lv_iconst (v := (-1)) hx hb dX10_canBeParents_49 (by decide) ?_
        refine lv_icmp_eq (tgt := 58) hx hb dX10_canBeParents_50 (by decide) (fun c16 => absurd c16 c1) (fun _ => ?_)
        refine lv_iload_n hx hb dX10_canBeParents_53 rfl (lv_at hl 3 rfl) ?_
        refine lv_iload_n hx hb dX10_canBeParents_54 rfl (lv_at hl 4 rfl) ?_
        refine lv_icmp_eq (tgt := 62) hx hb dX10_canBeParents_55 (by decide) (fun c17 => ?_) (fun c17 => ?_)
        · refine lv_iconst (v := 0) hx hb dX10_canBeParents_62 (by decide) ?_
          exact cr_rz hx hb hr hlocks (by simp only [c_cbp, decide_eq_false c1, b12, decide_eq_true c13, decide_eq_true c17, Bool.not_true, Bool.not_false, Bool.and_true, Bool.true_and, Bool.and_false, Bool.false_and, Bool.or_true, Bool.true_or, Bool.or_false, Bool.false_or, Bool.and_self, Bool.or_self, eq_self, if_true, Bool.false_eq_true, if_false] <;> rfl) (rfl) dX10_canBeParents_63
        · refine lv_iconst (v := 1) hx hb dX10_canBeParents_58 (by decide) ?_
          refine lv_goto (tgt := 63) hx hb dX10_canBeParents_59 (by decide) ?_
          exact cr_rz hx hb hr hlocks (by simp only [c_cbp, decide_eq_false c1, b12, decide_eq_true c13, decide_eq_false c17, Bool.not_true, Bool.not_false, Bool.and_true, Bool.true_and, Bool.and_false, Bool.false_and, Bool.or_true, Bool.true_or, Bool.or_false, Bool.false_or, Bool.and_self, Bool.or_self, eq_self, if_true, Bool.false_eq_true, if_false] <;> rfl) (rfl) dX10_canBeParents_63
      · refine lv_aload_n hx hb dX10_canBeParents_24 rfl (lv_at hl 1 rfl) ?_
        refine lv_iload_n hx hb dX10_canBeParents_25 rfl (lv_at hl 3 rfl) ?_
        refine cr_V (As := [.int mo]) (rest := []) hx hb hml hown hu hE (x_perAt l E A σ L mo) kX10_personAt u271 (cd_reg hC) rfl rfl (⟨hC, hI⟩) ⟨Nat.le_of_ble_eq_true rfl, Nat.le_of_ble_eq_true rfl⟩ rfl hl.1 rfl (Nat.le_of_ble_eq_true rfl) ⟨Nat.le_of_ble_eq_true rfl, Nat.le_of_ble_eq_true rfl⟩ dX10_canBeParents_26 ?_
        refine onO (fun b18 => ?_) (fun b18 => ?_)
        · refine lv_ifnull hx hb dX10_canBeParents_29 ?_
          refine lv_iconst (v := 1) hx hb dX10_canBeParents_32 (by decide) ?_
          refine lv_goto (tgt := 37) hx hb dX10_canBeParents_33 (by decide) ?_
          refine lv_istore (lv' := [(4, .int 1), (3, .int 1), (0, .ref (L 0 0)), (1, .int f), (2, .int mo)]) hx hb dX10_canBeParents_37 hl (by decide) rfl (fun ls hl => ?_)
          refine lv_iload_n hx hb dX10_canBeParents_39 rfl (lv_at hl 1 rfl) ?_
          refine lv_if_eq (tgt := 62) hx hb dX10_canBeParents_40 (by decide) (fun c19 => absurd c19 (by decide)) (fun _ => ?_)
          refine lv_iload hx hb dX10_canBeParents_43 (lv_at hl 0 rfl) ?_
          refine lv_if_eq (tgt := 62) hx hb dX10_canBeParents_45 (by decide) (fun c20 => absurd c20 (by decide)) (fun _ => ?_)
          refine lv_iload_n hx hb dX10_canBeParents_48 rfl (lv_at hl 3 rfl) ?_
          refine lv_iconst (v := (-1)) hx hb dX10_canBeParents_49 (by decide) ?_
          refine lv_icmp_eq (tgt := 58) hx hb dX10_canBeParents_50 (by decide) (fun c21 => absurd c21 c1) (fun _ => ?_)
          refine lv_iload_n hx hb dX10_canBeParents_53 rfl (lv_at hl 3 rfl) ?_
          refine lv_iload_n hx hb dX10_canBeParents_54 rfl (lv_at hl 4 rfl) ?_
          refine lv_icmp_eq (tgt := 62) hx hb dX10_canBeParents_55 (by decide) (fun c22 => ?_) (fun c22 => ?_)
          · refine lv_iconst (v := 0) hx hb dX10_canBeParents_62 (by decide) ?_
            exact cr_rz hx hb hr hlocks (by simp only [c_cbp, decide_eq_false c1, b12, decide_eq_false c13, b18, decide_eq_true c22, Bool.not_true, Bool.not_false, Bool.and_true, Bool.true_and, Bool.and_false, Bool.false_and, Bool.or_true, Bool.true_or, Bool.or_false, Bool.false_or, Bool.and_self, Bool.or_self, eq_self, if_true, Bool.false_eq_true, if_false] <;> rfl) (rfl) dX10_canBeParents_63
          · refine lv_iconst (v := 1) hx hb dX10_canBeParents_58 (by decide) ?_
            refine lv_goto (tgt := 63) hx hb dX10_canBeParents_59 (by decide) ?_
            exact cr_rz hx hb hr hlocks (by simp only [c_cbp, decide_eq_false c1, b12, decide_eq_false c13, b18, decide_eq_false c22, Bool.not_true, Bool.not_false, Bool.and_true, Bool.true_and, Bool.and_false, Bool.false_and, Bool.or_true, Bool.true_or, Bool.or_false, Bool.false_or, Bool.and_self, Bool.or_self, eq_self, if_true, Bool.false_eq_true, if_false] <;> rfl) (rfl) dX10_canBeParents_63
        · refine lv_ifnullN (tgt := 36) hx hb dX10_canBeParents_29 (by decide) ?_
          refine lv_iconst (v := 0) hx hb dX10_canBeParents_36 (by decide) ?_
          refine lv_istore (lv' := [(4, .int 0), (3, .int 1), (0, .ref (L 0 0)), (1, .int f), (2, .int mo)]) hx hb dX10_canBeParents_37 hl (by decide) rfl (fun ls hl => ?_)
          refine lv_iload_n hx hb dX10_canBeParents_39 rfl (lv_at hl 1 rfl) ?_
          refine lv_if_eq (tgt := 62) hx hb dX10_canBeParents_40 (by decide) (fun c23 => absurd c23 (by decide)) (fun _ => ?_)
          refine lv_iload hx hb dX10_canBeParents_43 (lv_at hl 0 rfl) ?_
          refine lv_if_eq (tgt := 62) hx hb dX10_canBeParents_45 (by decide) (fun _ => ?_) (fun c24 => absurd (by decide) c24)
          refine lv_iconst (v := 0) hx hb dX10_canBeParents_62 (by decide) ?_
          exact cr_rz hx hb hr hlocks (by simp only [c_cbp, decide_eq_false c1, b12, decide_eq_false c13, b18, Bool.not_true, Bool.not_false, Bool.and_true, Bool.true_and, Bool.and_false, Bool.false_and, Bool.or_true, Bool.true_or, Bool.or_false, Bool.false_or, Bool.and_self, Bool.or_self, eq_self, if_true, Bool.false_eq_true, if_false] <;> rfl) (rfl) dX10_canBeParents_63
    · refine lv_ifnullN (tgt := 17) hx hb dX10_canBeParents_10 (by decide) ?_
      refine lv_iconst (v := 0) hx hb dX10_canBeParents_17 (by decide) ?_
      refine lv_istore_n (lv' := [(3, .int 0), (0, .ref (L 0 0)), (1, .int f), (2, .int mo)]) hx hb dX10_canBeParents_18 rfl hl (by decide) rfl (fun ls hl => ?_)
      refine lv_iload_n hx hb dX10_canBeParents_19 rfl (lv_at hl 3 rfl) ?_
      refine lv_iconst (v := (-1)) hx hb dX10_canBeParents_20 (by decide) ?_
      refine lv_icmp_eq (tgt := 32) hx hb dX10_canBeParents_21 (by decide) (fun c25 => ?_) (fun c25 => ?_)
      · refine lv_iconst (v := 1) hx hb dX10_canBeParents_32 (by decide) ?_
        refine lv_goto (tgt := 37) hx hb dX10_canBeParents_33 (by decide) ?_
        refine lv_istore (lv' := [(4, .int 1), (3, .int 0), (0, .ref (L 0 0)), (1, .int f), (2, .int mo)]) hx hb dX10_canBeParents_37 hl (by decide) rfl (fun ls hl => ?_)
        refine lv_iload_n hx hb dX10_canBeParents_39 rfl (lv_at hl 1 rfl) ?_
        refine lv_if_eq (tgt := 62) hx hb dX10_canBeParents_40 (by decide) (fun _ => ?_) (fun c26 => absurd (by decide) c26)
        refine lv_iconst (v := 0) hx hb dX10_canBeParents_62 (by decide) ?_
        exact cr_rz hx hb hr hlocks (by simp only [c_cbp, decide_eq_false c1, b12, decide_eq_true c25, Bool.not_true, Bool.not_false, Bool.and_true, Bool.true_and, Bool.and_false, Bool.false_and, Bool.or_true, Bool.true_or, Bool.or_false, Bool.false_or, Bool.and_self, Bool.or_self, eq_self, if_true, Bool.false_eq_true, if_false] <;> rfl) (rfl) dX10_canBeParents_63
      · refine lv_aload_n hx hb dX10_canBeParents_24 rfl (lv_at hl 1 rfl) ?_
        refine lv_iload_n hx hb dX10_canBeParents_25 rfl (lv_at hl 3 rfl) ?_
        refine cr_V (As := [.int mo]) (rest := []) hx hb hml hown hu hE (x_perAt l E A σ L mo) kX10_personAt u271 (cd_reg hC) rfl rfl (⟨hC, hI⟩) ⟨Nat.le_of_ble_eq_true rfl, Nat.le_of_ble_eq_true rfl⟩ rfl hl.1 rfl (Nat.le_of_ble_eq_true rfl) ⟨Nat.le_of_ble_eq_true rfl, Nat.le_of_ble_eq_true rfl⟩ dX10_canBeParents_26 ?_
        refine onO (fun b27 => ?_) (fun b27 => ?_)
        · refine lv_ifnull hx hb dX10_canBeParents_29 ?_
          refine lv_iconst (v := 1) hx hb dX10_canBeParents_32 (by decide) ?_
          refine lv_goto (tgt := 37) hx hb dX10_canBeParents_33 (by decide) ?_
          refine lv_istore (lv' := [(4, .int 1), (3, .int 0), (0, .ref (L 0 0)), (1, .int f), (2, .int mo)]) hx hb dX10_canBeParents_37 hl (by decide) rfl (fun ls hl => ?_)
          refine lv_iload_n hx hb dX10_canBeParents_39 rfl (lv_at hl 1 rfl) ?_
          refine lv_if_eq (tgt := 62) hx hb dX10_canBeParents_40 (by decide) (fun _ => ?_) (fun c28 => absurd (by decide) c28)
          refine lv_iconst (v := 0) hx hb dX10_canBeParents_62 (by decide) ?_
          exact cr_rz hx hb hr hlocks (by simp only [c_cbp, decide_eq_false c1, b12, decide_eq_false c25, b27, Bool.not_true, Bool.not_false, Bool.and_true, Bool.true_and, Bool.and_false, Bool.false_and, Bool.or_true, Bool.true_or, Bool.or_false, Bool.false_or, Bool.and_self, Bool.or_self, eq_self, if_true, Bool.false_eq_true, if_false] <;> rfl) (rfl) dX10_canBeParents_63
        · refine lv_ifnullN (tgt := 36) hx hb dX10_canBeParents_29 (by decide) ?_
          refine lv_iconst (v := 0) hx hb dX10_canBeParents_36 (by decide) ?_
          refine lv_istore (lv' := [(4, .int 0), (3, .int 0), (0, .ref (L 0 0)), (1, .int f), (2, .int mo)]) hx hb dX10_canBeParents_37 hl (by decide) rfl (fun ls hl => ?_)
          refine lv_iload_n hx hb dX10_canBeParents_39 rfl (lv_at hl 1 rfl) ?_
          refine lv_if_eq (tgt := 62) hx hb dX10_canBeParents_40 (by decide) (fun _ => ?_) (fun c29 => absurd (by decide) c29)
          refine lv_iconst (v := 0) hx hb dX10_canBeParents_62 (by decide) ?_
          exact cr_rz hx hb hr hlocks (by simp only [c_cbp, decide_eq_false c1, b12, decide_eq_false c25, b27, Bool.not_true, Bool.not_false, Bool.and_true, Bool.true_and, Bool.and_false, Bool.false_and, Bool.or_true, Bool.true_or, Bool.or_false, Bool.false_or, Bool.and_self, Bool.or_self, eq_self, if_true, Bool.false_eq_true, if_false] <;> rfl) (rfl) dX10_canBeParents_63
set_option maxHeartbeats 1000000 in
set_option maxRecDepth 20000 in
theorem x_isBk (l : Launch) (E : EV) (A : Nat → Prop) (σ : St) (L : Nat → Nat → Nat) (x : Int32) : Cr l E yX6_isBooked cX6_isBooked 1 (some .boolean) 0 0 [.ref (L 22 x.toNatClampNeg)] (fun H => Cd E A σ L H ∧ InvM σ ∧ okN σ x) (some (.int (bI (!decide (gA σ 21 x = -1))))) := by
  refine Cr.of (by decide +kernel) (Nat.le_of_ble_eq_true rfl) (fun pg ev s mi bel mth cd hx hb hr hml hown hu hlocks hE hP ls hl => ?_)
  have hl : lv_has ls 1 [(0, .ref (L 22 x.toNatClampNeg))] := hl
  obtain ⟨hC, hI, hX⟩ := hP
  refine lv_aload_n hx hb dX6_isBooked_0 rfl (lv_at hl 0 rfl) ?_
  refine rd_get (k := 6) (v := .int (gA σ 21 x)) hx hb hown hu hE ok7 (cd_not hC (okN_lt hX)) (by decide) u461 (fun _ h => h) rfl dX6_isBooked_1 ?_
  refine lv_iconst (v := (-1)) hx hb dX6_isBooked_4 (by decide) ?_
  refine lv_icmp_eq (tgt := 12) hx hb dX6_isBooked_5 (by decide) (fun c1 => ?_) (fun c1 => ?_)
  · refine lv_iconst (v := 0) hx hb dX6_isBooked_12 (by decide) ?_
    exact cr_rz hx hb hr hlocks (by simp only [eq_self, decide_eq_true c1, Bool.not_true, Bool.not_false, Bool.and_true, Bool.true_and, Bool.and_false, Bool.false_and, Bool.or_true, Bool.true_or, Bool.or_false, Bool.false_or, Bool.and_self, Bool.or_self, eq_self, if_true, Bool.false_eq_true, if_false] <;> rfl) (rfl) dX6_isBooked_13
  · refine lv_iconst (v := 1) hx hb dX6_isBooked_8 (by decide) ?_
    refine lv_goto (tgt := 13) hx hb dX6_isBooked_9 (by decide) ?_
    exact cr_rz hx hb hr hlocks (by simp only [eq_self, decide_eq_false c1, Bool.not_true, Bool.not_false, Bool.and_true, Bool.true_and, Bool.and_false, Bool.false_and, Bool.or_true, Bool.true_or, Bool.or_false, Bool.false_or, Bool.and_self, Bool.or_self, eq_self, if_true, Bool.false_eq_true, if_false] <;> rfl) (rfl) dX6_isBooked_13
set_option maxHeartbeats 1000000 in
set_option maxRecDepth 20000 in
theorem x_isOf (l : Launch) (E : EV) (A : Nat → Prop) (σ : St) (L : Nat → Nat → Nat) (x a b : Int32) : Cr l E yX6_isOf cX6_isOf 3 (some .boolean) 0 0 [.ref (L 22 x.toNatClampNeg), .ref (L 21 a.toNatClampNeg), .ref (L 21 b.toNatClampNeg)] (fun H => Cd E A σ L H ∧ InvM σ ∧ okN σ x ∧ okP σ a ∧ okP σ b) (some (.int (bI (c_isOf σ x a b)))) := by
  refine Cr.of (by decide +kernel) (Nat.le_of_ble_eq_true rfl) (fun pg ev s mi bel mth cd hx hb hr hml hown hu hlocks hE hP ls hl => ?_)
  have hl : lv_has ls 3 [(0, .ref (L 22 x.toNatClampNeg)), (1, .ref (L 21 a.toNatClampNeg)), (2, .ref (L 21 b.toNatClampNeg))] := hl
  obtain ⟨hC, hI, hX, hA_, hB_⟩ := hP
  refine lv_aload_n hx hb dX6_isOf_0 rfl (lv_at hl 0 rfl) ?_
  refine rd_get (k := 1) (v := .ref (L 21 (gA σ 17 x).toNatClampNeg)) hx hb hown hu hE ok7 (cd_not hC (okN_lt hX)) (by decide) u449 (fun _ h => h) rfl dX6_isOf_1 ?_
  refine lv_aload_n hx hb dX6_isOf_4 rfl (lv_at hl 1 rfl) ?_
  refine ac_ne (x := gA σ 17 x) (y := a) (tgt := 16) hx hb (per_inj hC (one_ok hI hX) hA_) (fun z => by rw [z]) dX6_isOf_5 (by decide) (fun c1 => ?_) (fun c1 => ?_)
  · refine lv_aload_n hx hb dX6_isOf_16 rfl (lv_at hl 0 rfl) ?_
    refine rd_get (k := 1) (v := .ref (L 21 (gA σ 17 x).toNatClampNeg)) hx hb hown hu hE ok7 (cd_not hC (okN_lt hX)) (by decide) u449 (fun _ h => h) rfl dX6_isOf_17 ?_
    refine lv_aload_n hx hb dX6_isOf_20 rfl (lv_at hl 2 rfl) ?_
    refine ac_ne (x := gA σ 17 x) (y := b) (tgt := 36) hx hb (per_inj hC (one_ok hI hX) hB_) (fun z => by rw [z]) dX6_isOf_21 (by decide) (fun c2 => ?_) (fun c2 => ?_)
    · refine lv_iconst (v := 0) hx hb dX6_isOf_36 (by decide) ?_
      exact cr_rz hx hb hr hlocks (by simp only [c_isOf, decide_eq_false c1, decide_eq_false c2, Bool.not_true, Bool.not_false, Bool.and_true, Bool.true_and, Bool.and_false, Bool.false_and, Bool.or_true, Bool.true_or, Bool.or_false, Bool.false_or, Bool.and_self, Bool.or_self, eq_self, if_true, Bool.false_eq_true, if_false] <;> rfl) (rfl) dX6_isOf_37
    · refine lv_aload_n hx hb dX6_isOf_24 rfl (lv_at hl 0 rfl) ?_
      refine rd_get (k := 2) (v := .ref (L 21 (gA σ 18 x).toNatClampNeg)) hx hb hown hu hE ok7 (cd_not hC (okN_lt hX)) (by decide) u452 (fun _ h => h) rfl dX6_isOf_25 ?_
      refine lv_aload_n hx hb dX6_isOf_28 rfl (lv_at hl 1 rfl) ?_
      refine ac_ne (x := gA σ 18 x) (y := a) (tgt := 36) hx hb (per_inj hC (oth_ok hI hX) hA_) (fun z => by rw [z]) dX6_isOf_29 (by decide) (fun c3 => ?_) (fun c3 => ?_)
      · refine lv_iconst (v := 0) hx hb dX6_isOf_36 (by decide) ?_
        exact cr_rz hx hb hr hlocks (by simp only [c_isOf, decide_eq_false c1, decide_eq_true c2, decide_eq_false c3, Bool.not_true, Bool.not_false, Bool.and_true, Bool.true_and, Bool.and_false, Bool.false_and, Bool.or_true, Bool.true_or, Bool.or_false, Bool.false_or, Bool.and_self, Bool.or_self, eq_self, if_true, Bool.false_eq_true, if_false] <;> rfl) (rfl) dX6_isOf_37
      · refine lv_iconst (v := 1) hx hb dX6_isOf_32 (by decide) ?_
        refine lv_goto (tgt := 37) hx hb dX6_isOf_33 (by decide) ?_
        exact cr_rz hx hb hr hlocks (by simp only [c_isOf, decide_eq_false c1, decide_eq_true c2, decide_eq_true c3, Bool.not_true, Bool.not_false, Bool.and_true, Bool.true_and, Bool.and_false, Bool.false_and, Bool.or_true, Bool.true_or, Bool.or_false, Bool.false_or, Bool.and_self, Bool.or_self, eq_self, if_true, Bool.false_eq_true, if_false] <;> rfl) (rfl) dX6_isOf_37
  · refine lv_aload_n hx hb dX6_isOf_8 rfl (lv_at hl 0 rfl) ?_
    refine rd_get (k := 2) (v := .ref (L 21 (gA σ 18 x).toNatClampNeg)) hx hb hown hu hE ok7 (cd_not hC (okN_lt hX)) (by decide) u452 (fun _ h => h) rfl dX6_isOf_9 ?_
    refine lv_aload_n hx hb dX6_isOf_12 rfl (lv_at hl 2 rfl) ?_
    refine ac_eq (x := gA σ 18 x) (y := b) (tgt := 32) hx hb (per_inj hC (oth_ok hI hX) hB_) (fun z => by rw [z]) dX6_isOf_13 (by decide) (fun c4 => ?_) (fun c4 => ?_)
    · refine lv_iconst (v := 1) hx hb dX6_isOf_32 (by decide) ?_
      refine lv_goto (tgt := 37) hx hb dX6_isOf_33 (by decide) ?_
      exact cr_rz hx hb hr hlocks (by simp only [c_isOf, decide_eq_true c1, decide_eq_true c4, Bool.not_true, Bool.not_false, Bool.and_true, Bool.true_and, Bool.and_false, Bool.false_and, Bool.or_true, Bool.true_or, Bool.or_false, Bool.false_or, Bool.and_self, Bool.or_self, eq_self, if_true, Bool.false_eq_true, if_false] <;> rfl) (rfl) dX6_isOf_37
    · refine lv_aload_n hx hb dX6_isOf_16 rfl (lv_at hl 0 rfl) ?_
      refine rd_get (k := 1) (v := .ref (L 21 (gA σ 17 x).toNatClampNeg)) hx hb hown hu hE ok7 (cd_not hC (okN_lt hX)) (by decide) u449 (fun _ h => h) rfl dX6_isOf_17 ?_
      refine lv_aload_n hx hb dX6_isOf_20 rfl (lv_at hl 2 rfl) ?_
      refine ac_ne (x := gA σ 17 x) (y := b) (tgt := 36) hx hb (per_inj hC (one_ok hI hX) hB_) (fun z => by rw [z]) dX6_isOf_21 (by decide) (fun c5 => ?_) (fun c5 => ?_)
      · refine lv_iconst (v := 0) hx hb dX6_isOf_36 (by decide) ?_
        exact cr_rz hx hb hr hlocks (by simp only [c_isOf, decide_eq_true c1, decide_eq_false c4, decide_eq_false c5, Bool.not_true, Bool.not_false, Bool.and_true, Bool.true_and, Bool.and_false, Bool.false_and, Bool.or_true, Bool.true_or, Bool.or_false, Bool.false_or, Bool.and_self, Bool.or_self, eq_self, if_true, Bool.false_eq_true, if_false] <;> rfl) (rfl) dX6_isOf_37
      · refine lv_aload_n hx hb dX6_isOf_24 rfl (lv_at hl 0 rfl) ?_
        refine rd_get (k := 2) (v := .ref (L 21 (gA σ 18 x).toNatClampNeg)) hx hb hown hu hE ok7 (cd_not hC (okN_lt hX)) (by decide) u452 (fun _ h => h) rfl dX6_isOf_25 ?_
        refine lv_aload_n hx hb dX6_isOf_28 rfl (lv_at hl 1 rfl) ?_
        refine ac_ne (x := gA σ 18 x) (y := a) (tgt := 36) hx hb (per_inj hC (oth_ok hI hX) hA_) (fun z => by rw [z]) dX6_isOf_29 (by decide) (fun c6 => ?_) (fun c6 => ?_)
        · refine lv_iconst (v := 0) hx hb dX6_isOf_36 (by decide) ?_
          exact cr_rz hx hb hr hlocks (by simp only [c_isOf, decide_eq_true c1, decide_eq_false c4, decide_eq_true c5, decide_eq_false c6, Bool.not_true, Bool.not_false, Bool.and_true, Bool.true_and, Bool.and_false, Bool.false_and, Bool.or_true, Bool.true_or, Bool.or_false, Bool.false_or, Bool.and_self, Bool.or_self, eq_self, if_true, Bool.false_eq_true, if_false] <;> rfl) (rfl) dX6_isOf_37
        · refine lv_iconst (v := 1) hx hb dX6_isOf_32 (by decide) ?_
          refine lv_goto (tgt := 37) hx hb dX6_isOf_33 (by decide) ?_
          exact cr_rz hx hb hr hlocks (by simp only [c_isOf, decide_eq_true c1, decide_eq_false c4, decide_eq_true c5, decide_eq_true c6, Bool.not_true, Bool.not_false, Bool.and_true, Bool.true_and, Bool.and_false, Bool.false_and, Bool.or_true, Bool.true_or, Bool.or_false, Bool.false_or, Bool.and_self, Bool.or_self, eq_self, if_true, Bool.false_eq_true, if_false] <;> rfl) (rfl) dX6_isOf_37
set_option maxHeartbeats 1000000 in
set_option maxRecDepth 20000 in
theorem x_openB (l : Launch) (E : EV) (A : Nat → Prop) (σ : St) (L : Nat → Nat → Nat)  : Cr l E yX10_openBookings cX10_openBookings 4 (some .int) 3 64 [.ref (L 0 0)] (fun H => Cd E A σ L H ∧ InvM σ) (some (.int (m_opL σ (nn σ 23) 0 0))) := by
  refine Cr.of (by decide +kernel) (Nat.le_of_ble_eq_true rfl) (fun pg ev s mi bel mth cd hx hb hr hml hown hu hlocks hE hP ls hl => ?_)
  have hl : lv_has ls 4 [(0, .ref (L 0 0))] := hl
  obtain ⟨hC, hI⟩ := hP
  have hn := cnt_le (N := 60) hI.1.2.2.2.2.1
  have hc := cnt_nI hI.1.2.2.2.2.1
  refine lv_iconst (v := 0) hx hb dX10_openBookings_0 (by decide) ?_
  refine lv_istore_n (lv' := [(1, .int 0), (0, .ref (L 0 0))]) hx hb dX10_openBookings_1 rfl hl (by decide) rfl (fun ls hl => ?_)
  refine lv_iconst (v := 0) hx hb dX10_openBookings_2 (by decide) ?_
  refine lv_istore_n (lv' := [(2, .int 0), (1, .int 0), (0, .ref (L 0 0))]) hx hb dX10_openBookings_3 rfl hl (by decide) rfl (fun ls hl => ?_)
  obtain ⟨T, hT⟩ : ∃ z, z = m_opL σ (nn σ 23) 0 0 := ⟨_, rfl⟩
  have lo : ∀ (f k : Nat) (r : Int32), (k + f = nn σ 23) → (m_opL σ f k r = T) → ∀ (ls : Array Slot), lv_has ls 4 [(0, .ref (L 0 0)), (1, .int r), (2, .int (nI k))] → W pg l ev { frames := 3, cells := 0, slots := 0, locals := 64 } s mi [.ref (L 0 0)].toArray bel mth cd s.heap [] 0 0 (QR bel s [.ref (L 0 0)].toArray (some (.int (m_opL σ (nn σ 23) 0 0)))) (F0 mi 4 ls []) := by
    intro f
    induction f with
    | zero =>
      intro k r hk hi ls hl
      refine lv_iload_n hx hb dX10_openBookings_4 rfl (lv_at hl 2 rfl) ?_
      refine lv_aload_n hx hb dX10_openBookings_5 rfl (lv_at hl 0 rfl) ?_
      refine rd_get (k := 7) (v := .ref (L 9 2)) hx hb hown hu hE ok11 (cd_reg hC) (by decide) u144 (fun _ h => h) rfl dX10_openBookings_6 ?_
      refine cr_V (As := []) (rest := [.int (nI k)]) hx hb hml hown hu hE (c_LS2 l E A σ L) kJx4a65c_size_8abf5 u266 ((cd_lex hC (j := 2) (by omega)).choose_spec) rfl rfl (⟨hC, hI⟩) ⟨Nat.le_of_ble_eq_true rfl, Nat.le_of_ble_eq_true rfl⟩ rfl hl.1 rfl (Nat.le_of_ble_eq_true rfl) ⟨Nat.le_of_ble_eq_true rfl, Nat.le_of_ble_eq_true rfl⟩ dX10_openBookings_9 ?_
      refine lv_icmp_ge (tgt := 50) hx hb dX10_openBookings_12 (by decide) (fun c1 => ?_) (fun c1 => absurd (by rw [hc]; exact nI_le (by omega) (by omega)) c1)
      refine lv_iload_n hx hb dX10_openBookings_50 rfl (lv_at hl 1 rfl) ?_
      exact cr_ri hx hb hr hlocks (by simp only [m_opL] at hi; rw [← hT, ← hi]) dX10_openBookings_51
    | succ f ih =>
      intro k r hk hi ls hl
      refine lv_iload_n hx hb dX10_openBookings_4 rfl (lv_at hl 2 rfl) ?_
      refine lv_aload_n hx hb dX10_openBookings_5 rfl (lv_at hl 0 rfl) ?_
      refine rd_get (k := 7) (v := .ref (L 9 2)) hx hb hown hu hE ok11 (cd_reg hC) (by decide) u144 (fun _ h => h) rfl dX10_openBookings_6 ?_
      refine cr_V (As := []) (rest := [.int (nI k)]) hx hb hml hown hu hE (c_LS2 l E A σ L) kJx4a65c_size_8abf5 u266 ((cd_lex hC (j := 2) (by omega)).choose_spec) rfl rfl (⟨hC, hI⟩) ⟨Nat.le_of_ble_eq_true rfl, Nat.le_of_ble_eq_true rfl⟩ rfl hl.1 rfl (Nat.le_of_ble_eq_true rfl) ⟨Nat.le_of_ble_eq_true rfl, Nat.le_of_ble_eq_true rfl⟩ dX10_openBookings_9 ?_
      refine lv_icmp_ge (tgt := 50) hx hb dX10_openBookings_12 (by decide) (fun c2 => absurd c2 (by rw [hc]; exact nI_ge (by omega) (by omega))) (fun c2 => ?_)
      refine lv_aload_n hx hb dX10_openBookings_15 rfl (lv_at hl 0 rfl) ?_
      refine rd_get (k := 7) (v := .ref (L 9 2)) hx hb hown hu hE ok11 (cd_reg hC) (by decide) u144 (fun _ h => h) rfl dX10_openBookings_16 ?_
      refine lv_iload_n hx hb dX10_openBookings_19 rfl (lv_at hl 2 rfl) ?_
      refine cr_V (As := [.int (nI k)]) (rest := []) hx hb hml hown hu hE (c_LG2 l E A σ L (nI k)) kJx4a65c_get_915e3 u275 ((cd_lex hC (j := 2) (by omega)).choose_spec) rfl rfl (⟨hC, nI_okN hI (by omega)⟩) ⟨Nat.le_of_ble_eq_true rfl, Nat.le_of_ble_eq_true rfl⟩ rfl hl.1 rfl (Nat.le_of_ble_eq_true rfl) ⟨Nat.le_of_ble_eq_true rfl, Nat.le_of_ble_eq_true rfl⟩ dX10_openBookings_20 ?_
      refine cl_cast hx hb hown hu hE ok7 u437 (cd_not hC (okN_lt (nI_okN hI (by omega)))) dX10_openBookings_23 ?_
      refine lv_astore_n (lv' := [(3, .ref (L 22 (nI k).toNatClampNeg)), (0, .ref (L 0 0)), (1, .int r), (2, .int (nI k))]) hx hb dX10_openBookings_26 rfl hl (by decide) rfl (fun ls hl => ?_)
      refine lv_aload_n hx hb dX10_openBookings_27 rfl (lv_at hl 0 rfl) ?_
      refine rd_get (k := 4) (v := .int (gA σ 20 (nI k))) hx hb hown hu hE ok7 (cd_not hC (okN_lt (nI_okN hI (by omega)))) (by decide) u458 (fun _ h => h) rfl dX10_openBookings_28 ?_
      refine lv_if_ne (tgt := 44) hx hb dX10_openBookings_31 (by decide) (fun c3 => ?_) (fun c3 => ?_)
      · refine lv_iinc (v := nI (k + 1)) (lv' := [(2, .int (nI (k + 1))), (3, .ref (L 22 (nI k).toNatClampNeg)), (0, .ref (L 0 0)), (1, .int r)]) hx hb dX10_openBookings_44 hl (k := 3) rfl (nI_1 k) (by decide) rfl (fun ls hl => ?_)
        refine lv_goto (tgt := 4) hx hb dX10_openBookings_47 (by decide) ?_
        exact ih (k + 1) _ (by omega) (by simp only [m_opL, decide_eq_false c3, Bool.not_true, Bool.not_false, Bool.and_true, Bool.true_and, Bool.and_false, Bool.false_and, Bool.or_true, Bool.true_or, Bool.or_false, Bool.false_or, Bool.and_self, Bool.or_self, eq_self, if_true, Bool.false_eq_true, if_false] at hi; rw [show r + bI false = r from Int32.add_zero r] at hi; exact hi) _ (lv_sub hl [2, 3, 0] rfl)
      · refine lv_aload_n hx hb dX10_openBookings_34 rfl (lv_at hl 0 rfl) ?_
        refine cr_V (As := []) (rest := []) hx hb hml hown hu hE (x_isBk l E A σ L (nI k)) kX6_isBooked u593 (cd_not hC (okN_lt (nI_okN hI (by omega)))) rfl rfl (⟨hC, hI, (nI_okN hI (by omega))⟩) ⟨Nat.le_of_ble_eq_true rfl, Nat.le_of_ble_eq_true rfl⟩ rfl hl.1 rfl (Nat.le_of_ble_eq_true rfl) ⟨Nat.le_of_ble_eq_true rfl, Nat.le_of_ble_eq_true rfl⟩ dX10_openBookings_35 ?_
        refine onB (fun b4 => ?_) (fun b4 => ?_)
        · refine lv_if_eq (tgt := 44) hx hb dX10_openBookings_38 (by decide) (fun c5 => absurd c5 (by decide)) (fun _ => ?_)
          refine lv_iinc (v := r + 1) (lv' := [(1, .int (r + 1)), (3, .ref (L 22 (nI k).toNatClampNeg)), (0, .ref (L 0 0)), (2, .int (nI k))]) hx hb dX10_openBookings_41 hl (k := 2) rfl rfl (by decide) rfl (fun ls hl => ?_)
          refine lv_iinc (v := nI (k + 1)) (lv' := [(2, .int (nI (k + 1))), (1, .int (r + 1)), (3, .ref (L 22 (nI k).toNatClampNeg)), (0, .ref (L 0 0))]) hx hb dX10_openBookings_44 hl (k := 3) rfl (nI_1 k) (by decide) rfl (fun ls hl => ?_)
          refine lv_goto (tgt := 4) hx hb dX10_openBookings_47 (by decide) ?_
          exact ih (k + 1) _ (by omega) (by simp only [m_opL, decide_eq_true c3, b4, Bool.not_true, Bool.not_false, Bool.and_true, Bool.true_and, Bool.and_false, Bool.false_and, Bool.or_true, Bool.true_or, Bool.or_false, Bool.false_or, Bool.and_self, Bool.or_self, eq_self, if_true, Bool.false_eq_true, if_false] at hi; exact hi) _ (lv_sub hl [3, 1, 0] rfl)
        · refine lv_if_eq (tgt := 44) hx hb dX10_openBookings_38 (by decide) (fun _ => ?_) (fun c6 => absurd (by decide) c6)
          refine lv_iinc (v := nI (k + 1)) (lv' := [(2, .int (nI (k + 1))), (3, .ref (L 22 (nI k).toNatClampNeg)), (0, .ref (L 0 0)), (1, .int r)]) hx hb dX10_openBookings_44 hl (k := 3) rfl (nI_1 k) (by decide) rfl (fun ls hl => ?_)
          refine lv_goto (tgt := 4) hx hb dX10_openBookings_47 (by decide) ?_
          exact ih (k + 1) _ (by omega) (by simp only [m_opL, decide_eq_true c3, b4, Bool.not_true, Bool.not_false, Bool.and_true, Bool.true_and, Bool.and_false, Bool.false_and, Bool.or_true, Bool.true_or, Bool.or_false, Bool.false_or, Bool.and_self, Bool.or_self, eq_self, if_true, Bool.false_eq_true, if_false] at hi; rw [show r + bI false = r from Int32.add_zero r] at hi; exact hi) _ (lv_sub hl [2, 3, 0] rfl)
  exact lo (nn σ 23) 0 0 (by omega) hT.symm _ (lv_sub hl [2, 1, 0] rfl)
set_option maxHeartbeats 1000000 in
set_option maxRecDepth 20000 in
theorem x_hasON (l : Launch) (E : EV) (A : Nat → Prop) (σ : St) (L : Nat → Nat → Nat) (a b : Int32) : Cr l E yX10_hasOpenNotice cX10_hasOpenNotice 5 (some .boolean) 3 64 [.ref (L 0 0), .ref (L 21 a.toNatClampNeg), .ref (L 21 b.toNatClampNeg)] (fun H => Cd E A σ L H ∧ InvM σ ∧ okP σ a ∧ okP σ b) (some (.int (bI (m_poL σ a b (nn σ 23) 0)))) := by
  refine Cr.of (by decide +kernel) (Nat.le_of_ble_eq_true rfl) (fun pg ev s mi bel mth cd hx hb hr hml hown hu hlocks hE hP ls hl => ?_)
  have hl : lv_has ls 5 [(0, .ref (L 0 0)), (1, .ref (L 21 a.toNatClampNeg)), (2, .ref (L 21 b.toNatClampNeg))] := hl
  obtain ⟨hC, hI, hA_, hB_⟩ := hP
  have hn := cnt_le (N := 60) hI.1.2.2.2.2.1
  have hc := cnt_nI hI.1.2.2.2.2.1
  refine lv_iconst (v := 0) hx hb dX10_hasOpenNotice_0 (by decide) ?_
  refine lv_istore_n (lv' := [(3, .int 0), (0, .ref (L 0 0)), (1, .ref (L 21 a.toNatClampNeg)), (2, .ref (L 21 b.toNatClampNeg))]) hx hb dX10_hasOpenNotice_1 rfl hl (by decide) rfl (fun ls hl => ?_)
  obtain ⟨T, hT⟩ : ∃ z, z = m_poL σ a b (nn σ 23) 0 := ⟨_, rfl⟩
  have lo : ∀ (f k : Nat), (k + f = nn σ 23) → (m_poL σ a b f k = T) → ∀ (ls : Array Slot), lv_has ls 5 [(0, .ref (L 0 0)), (1, .ref (L 21 a.toNatClampNeg)), (2, .ref (L 21 b.toNatClampNeg)), (3, .int (nI k))] → W pg l ev { frames := 3, cells := 0, slots := 0, locals := 64 } s mi [.ref (L 0 0), .ref (L 21 a.toNatClampNeg), .ref (L 21 b.toNatClampNeg)].toArray bel mth cd s.heap [] 0 0 (QR bel s [.ref (L 0 0), .ref (L 21 a.toNatClampNeg), .ref (L 21 b.toNatClampNeg)].toArray (some (.int (bI (m_poL σ a b (nn σ 23) 0))))) (F0 mi 2 ls []) := by
    intro f
    induction f with
    | zero =>
      intro k hk hi ls hl
      refine lv_iload_n hx hb dX10_hasOpenNotice_2 rfl (lv_at hl 3 rfl) ?_
      refine lv_aload_n hx hb dX10_hasOpenNotice_3 rfl (lv_at hl 0 rfl) ?_
      refine rd_get (k := 7) (v := .ref (L 9 2)) hx hb hown hu hE ok11 (cd_reg hC) (by decide) u144 (fun _ h => h) rfl dX10_hasOpenNotice_4 ?_
      refine cr_V (As := []) (rest := [.int (nI k)]) hx hb hml hown hu hE (c_LS2 l E A σ L) kJx4a65c_size_8abf5 u266 ((cd_lex hC (j := 2) (by omega)).choose_spec) rfl rfl (⟨hC, hI⟩) ⟨Nat.le_of_ble_eq_true rfl, Nat.le_of_ble_eq_true rfl⟩ rfl hl.1 rfl (Nat.le_of_ble_eq_true rfl) ⟨Nat.le_of_ble_eq_true rfl, Nat.le_of_ble_eq_true rfl⟩ dX10_hasOpenNotice_7 ?_
      refine lv_icmp_ge (tgt := 52) hx hb dX10_hasOpenNotice_10 (by decide) (fun c1 => ?_) (fun c1 => absurd (by rw [hc]; exact nI_le (by omega) (by omega)) c1)
      refine lv_iconst (v := 0) hx hb dX10_hasOpenNotice_52 (by decide) ?_
      exact cr_rz hx hb hr hlocks (by simp only [m_poL] at hi; rw [← hT, ← hi]; rfl) (rfl) dX10_hasOpenNotice_53
    | succ f ih =>
      intro k hk hi ls hl
      refine lv_iload_n hx hb dX10_hasOpenNotice_2 rfl (lv_at hl 3 rfl) ?_
      refine lv_aload_n hx hb dX10_hasOpenNotice_3 rfl (lv_at hl 0 rfl) ?_
      refine rd_get (k := 7) (v := .ref (L 9 2)) hx hb hown hu hE ok11 (cd_reg hC) (by decide) u144 (fun _ h => h) rfl dX10_hasOpenNotice_4 ?_
      refine cr_V (As := []) (rest := [.int (nI k)]) hx hb hml hown hu hE (c_LS2 l E A σ L) kJx4a65c_size_8abf5 u266 ((cd_lex hC (j := 2) (by omega)).choose_spec) rfl rfl (⟨hC, hI⟩) ⟨Nat.le_of_ble_eq_true rfl, Nat.le_of_ble_eq_true rfl⟩ rfl hl.1 rfl (Nat.le_of_ble_eq_true rfl) ⟨Nat.le_of_ble_eq_true rfl, Nat.le_of_ble_eq_true rfl⟩ dX10_hasOpenNotice_7 ?_
      refine lv_icmp_ge (tgt := 52) hx hb dX10_hasOpenNotice_10 (by decide) (fun c2 => absurd c2 (by rw [hc]; exact nI_ge (by omega) (by omega))) (fun c2 => ?_)
      refine lv_aload_n hx hb dX10_hasOpenNotice_13 rfl (lv_at hl 0 rfl) ?_
      refine rd_get (k := 7) (v := .ref (L 9 2)) hx hb hown hu hE ok11 (cd_reg hC) (by decide) u144 (fun _ h => h) rfl dX10_hasOpenNotice_14 ?_
      refine lv_iload_n hx hb dX10_hasOpenNotice_17 rfl (lv_at hl 3 rfl) ?_
      refine cr_V (As := [.int (nI k)]) (rest := []) hx hb hml hown hu hE (c_LG2 l E A σ L (nI k)) kJx4a65c_get_915e3 u275 ((cd_lex hC (j := 2) (by omega)).choose_spec) rfl rfl (⟨hC, nI_okN hI (by omega)⟩) ⟨Nat.le_of_ble_eq_true rfl, Nat.le_of_ble_eq_true rfl⟩ rfl hl.1 rfl (Nat.le_of_ble_eq_true rfl) ⟨Nat.le_of_ble_eq_true rfl, Nat.le_of_ble_eq_true rfl⟩ dX10_hasOpenNotice_18 ?_
      refine cl_cast hx hb hown hu hE ok7 u437 (cd_not hC (okN_lt (nI_okN hI (by omega)))) dX10_hasOpenNotice_21 ?_
      refine lv_astore (lv' := [(4, .ref (L 22 (nI k).toNatClampNeg)), (0, .ref (L 0 0)), (1, .ref (L 21 a.toNatClampNeg)), (2, .ref (L 21 b.toNatClampNeg)), (3, .int (nI k))]) hx hb dX10_hasOpenNotice_24 hl (by decide) rfl (fun ls hl => ?_)
      refine lv_aload hx hb dX10_hasOpenNotice_26 (lv_at hl 0 rfl) ?_
      refine rd_get (k := 4) (v := .int (gA σ 20 (nI k))) hx hb hown hu hE ok7 (cd_not hC (okN_lt (nI_okN hI (by omega)))) (by decide) u458 (fun _ h => h) rfl dX10_hasOpenNotice_28 ?_
      refine lv_if_ne (tgt := 46) hx hb dX10_hasOpenNotice_31 (by decide) (fun c3 => ?_) (fun c3 => ?_)
      · refine lv_iinc (v := nI (k + 1)) (lv' := [(3, .int (nI (k + 1))), (4, .ref (L 22 (nI k).toNatClampNeg)), (0, .ref (L 0 0)), (1, .ref (L 21 a.toNatClampNeg)), (2, .ref (L 21 b.toNatClampNeg))]) hx hb dX10_hasOpenNotice_46 hl (k := 4) rfl (nI_1 k) (by decide) rfl (fun ls hl => ?_)
        refine lv_goto (tgt := 2) hx hb dX10_hasOpenNotice_49 (by decide) ?_
        exact ih (k + 1) (by omega) (by simp only [m_poL] at hi; rw [show m_poC σ a b (nI k) = (decide (gA σ 20 (nI k) = 0) && c_isOf σ (nI k) a b) from rfl] at hi; simp only [decide_eq_false c3, Bool.not_true, Bool.not_false, Bool.and_true, Bool.true_and, Bool.and_false, Bool.false_and, Bool.or_true, Bool.true_or, Bool.or_false, Bool.false_or, Bool.and_self, Bool.or_self, eq_self, if_true, Bool.false_eq_true, if_false] at hi; exact hi) _ (lv_sub hl [2, 3, 4, 0] rfl)
      · refine lv_aload hx hb dX10_hasOpenNotice_34 (lv_at hl 0 rfl) ?_
        refine lv_aload_n hx hb dX10_hasOpenNotice_36 rfl (lv_at hl 2 rfl) ?_
        refine lv_aload_n hx hb dX10_hasOpenNotice_37 rfl (lv_at hl 3 rfl) ?_
        refine cr_V (As := [.ref (L 21 a.toNatClampNeg), .ref (L 21 b.toNatClampNeg)]) (rest := []) hx hb hml hown hu hE (x_isOf l E A σ L (nI k) a b) kX6_isOf u438 (cd_not hC (okN_lt (nI_okN hI (by omega)))) rfl rfl (⟨hC, hI, (nI_okN hI (by omega)), hA_, hB_⟩) ⟨Nat.le_of_ble_eq_true rfl, Nat.le_of_ble_eq_true rfl⟩ rfl hl.1 rfl (Nat.le_of_ble_eq_true rfl) ⟨Nat.le_of_ble_eq_true rfl, Nat.le_of_ble_eq_true rfl⟩ dX10_hasOpenNotice_38 ?_
        refine onB (fun b4 => ?_) (fun b4 => ?_)
        · refine lv_if_eq (tgt := 46) hx hb dX10_hasOpenNotice_41 (by decide) (fun c5 => absurd c5 (by decide)) (fun _ => ?_)
          refine lv_iconst (v := 1) hx hb dX10_hasOpenNotice_44 (by decide) ?_
          exact cr_rz hx hb hr hlocks (by simp only [m_poL] at hi; rw [show m_poC σ a b (nI k) = (decide (gA σ 20 (nI k) = 0) && c_isOf σ (nI k) a b) from rfl] at hi; simp only [decide_eq_true c3, b4, Bool.not_true, Bool.not_false, Bool.and_true, Bool.true_and, Bool.and_false, Bool.false_and, Bool.or_true, Bool.true_or, Bool.or_false, Bool.false_or, Bool.and_self, Bool.or_self, eq_self, if_true, Bool.false_eq_true, if_false] at hi; rw [← hT, ← hi]; rfl) (rfl) dX10_hasOpenNotice_45
        · refine lv_if_eq (tgt := 46) hx hb dX10_hasOpenNotice_41 (by decide) (fun _ => ?_) (fun c6 => absurd (by decide) c6)
          refine lv_iinc (v := nI (k + 1)) (lv' := [(3, .int (nI (k + 1))), (4, .ref (L 22 (nI k).toNatClampNeg)), (0, .ref (L 0 0)), (1, .ref (L 21 a.toNatClampNeg)), (2, .ref (L 21 b.toNatClampNeg))]) hx hb dX10_hasOpenNotice_46 hl (k := 4) rfl (nI_1 k) (by decide) rfl (fun ls hl => ?_)
          refine lv_goto (tgt := 2) hx hb dX10_hasOpenNotice_49 (by decide) ?_
          exact ih (k + 1) (by omega) (by simp only [m_poL] at hi; rw [show m_poC σ a b (nI k) = (decide (gA σ 20 (nI k) = 0) && c_isOf σ (nI k) a b) from rfl] at hi; simp only [decide_eq_true c3, b4, Bool.not_true, Bool.not_false, Bool.and_true, Bool.true_and, Bool.and_false, Bool.false_and, Bool.or_true, Bool.true_or, Bool.or_false, Bool.false_or, Bool.and_self, Bool.or_self, eq_self, if_true, Bool.false_eq_true, if_false] at hi; exact hi) _ (lv_sub hl [2, 3, 4, 0] rfl)
  exact lo (nn σ 23) 0 (by omega) hT.symm _ (lv_sub hl [1, 2, 3, 0] rfl)
