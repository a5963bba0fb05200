set_option maxHeartbeats 1000000 in
set_option maxRecDepth 20000 in
theorem c_hungOf (l : Launch) (E : EV) (A : Nat → Prop) (σ : St) (M : Nat → Nat) (n dy : Int32) : Cr l E yX11_hungOf cX11_hungOf 5 (some .int) 1 21 [.ref (M 0), .int n, .int dy] (fun H => Md E A σ M H ∧ InvM σ ∧ okN σ n ∧ okD dy) (some (.int (m_hung σ n dy))) := by
  refine Cr.of (by decide +kernel) (Nat.le_of_ble_eq_true rfl) (fun pg ev s mi bel mth cd hx hb hr hml hown hu hlocks hE hP ls hl => ?_)
  have hl : lv_has ls 5 [(0, .ref (M 0)), (1, .int n), (2, .int dy)] := hl
  obtain ⟨hM, hI, hX, hD⟩ := hP
  have hpo := pos_ok hI hX
  have hp1 := bnd_nI hpo
  have hp2 := bnd_le (N := 20000) hpo
  have hdy := bnd_nI (N := 20000) hD
  have hd2 := bnd_le (N := 20000) hD
  have hp3 : gA σ 19 n + 1 = nI ((gA σ 19 n).toNatClampNeg + 1) := by rw [← nI_1, ← hp1]
  refine lv_iconst (v := 0) hx hb dX11_hungOf_0 (by decide) ?_
  refine lv_istore_n (lv' := [(3, .int 0), (0, .ref (M 0)), (1, .int n), (2, .int dy)]) hx hb dX11_hungOf_1 rfl hl (by decide) rfl (fun ls hl => ?_)
  refine lv_aload_n hx hb dX11_hungOf_2 rfl (lv_at hl 1 rfl) ?_
  refine rd_get (k := 19) (v := .ref (M 19)) hx hb hown hu hE ok12 (md_obj hM) (by decide) u776 (fun _ h => h) rfl dX11_hungOf_3 ?_
  refine lv_iload_n hx hb dX11_hungOf_6 rfl (lv_at hl 2 rfl) ?_
  refine mr_ld (t := 19) hx hb hE hM rfl (by decide) (okN_in hI hX) dX11_hungOf_7 ?_
  refine lv_iconst (v := 1) hx hb dX11_hungOf_8 (by decide) ?_
  refine lv_iadd hx hb dX11_hungOf_9 ?_
  rw [hp3]
  refine lv_istore (lv' := [(4, .int (nI ((gA σ 19 n).toNatClampNeg + 1))), (3, .int 0), (0, .ref (M 0)), (1, .int n), (2, .int dy)]) hx hb dX11_hungOf_10 hl (by decide) rfl (fun ls hl => ?_)
  obtain ⟨T, hT⟩ : ∃ z, z = m_hung σ n dy := ⟨_, rfl⟩
  have lo : ∀ (f d : Nat) (r : Int32), (f = dy.toNatClampNeg - d) → (d ≤ 20001) → (m_huL σ f d r = T) → ∀ (ls : Array Slot), lv_has ls 5 [(0, .ref (M 0)), (2, .int dy), (3, .int r), (4, .int (nI d))] → W pg l ev { frames := 1, cells := 0, slots := 0, locals := 21 } s mi [.ref (M 0), .int n, .int dy].toArray bel mth cd s.heap [] 0 0 (QR bel s [.ref (M 0), .int n, .int dy].toArray (some (.int (m_hung σ n dy)))) (F0 mi 12 ls []) := by
    intro f
    induction f with
    | zero =>
      intro d r hk hd hi ls hl
      refine lv_iload hx hb dX11_hungOf_12 (lv_at hl 3 rfl) ?_
      refine lv_iload_n hx hb dX11_hungOf_14 rfl (lv_at hl 1 rfl) ?_
      refine lv_icmp_ge (tgt := 41) hx hb dX11_hungOf_15 (by decide) (fun c1 => ?_) (fun c1 => absurd (by rw [hdy]; exact nI_le (by omega) (by omega)) c1)
      refine lv_iload_n hx hb dX11_hungOf_41 rfl (lv_at hl 2 rfl) ?_
      exact cr_ri hx hb hr hlocks (by simp only [m_huL] at hi; rw [← hT, ← hi]) dX11_hungOf_42
    | succ f ih =>
      intro d r hk hd hi ls hl
      refine lv_iload hx hb dX11_hungOf_12 (lv_at hl 3 rfl) ?_
      refine lv_iload_n hx hb dX11_hungOf_14 rfl (lv_at hl 1 rfl) ?_
      refine lv_icmp_ge (tgt := 41) hx hb dX11_hungOf_15 (by decide) (fun c2 => absurd c2 (by rw [hdy]; exact nI_ge (by omega) (by omega))) (fun c2 => ?_)
      refine lv_iload_n hx hb dX11_hungOf_18 rfl (lv_at hl 2 rfl) ?_
      refine lv_aload_n hx hb dX11_hungOf_19 rfl (lv_at hl 0 rfl) ?_
      refine lv_iload hx hb dX11_hungOf_20 (lv_at hl 3 rfl) ?_
      refine cr_V (As := [.int (nI d)]) (rest := [.int r]) hx hb hml hown hu hE (c_isFree l E A σ M (nI d)) kX11_isFree u892 (md_obj hM) rfl rfl (⟨hM, hI, okD_nI (by omega)⟩) ⟨Nat.le_of_ble_eq_true rfl, Nat.le_of_ble_eq_true rfl⟩ rfl hl.1 rfl (Nat.le_of_ble_eq_true rfl) ⟨Nat.le_of_ble_eq_true rfl, Nat.le_of_ble_eq_true rfl⟩ dX11_hungOf_22 ?_
      refine onB (fun b3 => ?_) (fun b3 => ?_)
      · refine lv_if_eq (tgt := 32) hx hb dX11_hungOf_25 (by decide) (fun c4 => absurd c4 (by decide)) (fun _ => ?_)
        refine lv_iconst (v := 1) hx hb dX11_hungOf_28 (by decide) ?_
        refine lv_goto (tgt := 33) hx hb dX11_hungOf_29 (by decide) ?_
        refine lv_iadd hx hb dX11_hungOf_33 ?_
        refine lv_istore_n (lv' := [(3, .int (r + 1)), (0, .ref (M 0)), (2, .int dy), (4, .int (nI d))]) hx hb dX11_hungOf_34 rfl hl (by decide) rfl (fun ls hl => ?_)
        refine lv_iinc (v := nI (d + 1)) (lv' := [(4, .int (nI (d + 1))), (3, .int (r + 1)), (0, .ref (M 0)), (2, .int dy)]) hx hb dX11_hungOf_35 hl (k := 3) rfl (nI_1 d) (by decide) rfl (fun ls hl => ?_)
        refine lv_goto (tgt := 12) hx hb dX11_hungOf_38 (by decide) ?_
        exact ih (d + 1) _ (by omega) (by omega) (by simp only [m_huL, b3] at hi; exact hi) _ (lv_sub hl [2, 3, 1, 0] rfl)
      · refine lv_if_eq (tgt := 32) hx hb dX11_hungOf_25 (by decide) (fun _ => ?_) (fun c5 => absurd (by decide) c5)
        refine lv_iconst (v := 0) hx hb dX11_hungOf_32 (by decide) ?_
        refine lv_iadd hx hb dX11_hungOf_33 ?_
        refine lv_istore_n (lv' := [(3, .int (r + 0)), (0, .ref (M 0)), (2, .int dy), (4, .int (nI d))]) hx hb dX11_hungOf_34 rfl hl (by decide) rfl (fun ls hl => ?_)
        refine lv_iinc (v := nI (d + 1)) (lv' := [(4, .int (nI (d + 1))), (3, .int (r + 0)), (0, .ref (M 0)), (2, .int dy)]) hx hb dX11_hungOf_35 hl (k := 3) rfl (nI_1 d) (by decide) rfl (fun ls hl => ?_)
        refine lv_goto (tgt := 12) hx hb dX11_hungOf_38 (by decide) ?_
        exact ih (d + 1) _ (by omega) (by omega) (by simp only [m_huL, b3] at hi; exact hi) _ (lv_sub hl [2, 3, 1, 0] rfl)
  exact lo _ _ 0 rfl (by omega) hT.symm _ (lv_sub hl [2, 4, 1, 0] rfl)
set_option maxHeartbeats 1000000 in
set_option maxRecDepth 20000 in
theorem c_hung (l : Launch) (E : EV) (A : Nat → Prop) (σ : St) (M : Nat → Nat) (n dy : Int32) : Cr l E yX11_hung cX11_hung 3 (some .int) 2 45 [.ref (M 0), .int n, .int dy] (fun H => Md E A σ M H ∧ InvM σ) (some (.int (m_hungA σ n dy))) := by
  refine Cr.of (by decide +kernel) (Nat.le_of_ble_eq_true rfl) (fun pg ev s mi bel mth cd hx hb hr hml hown hu hlocks hE hP ls hl => ?_)
  have hl : lv_has ls 3 [(0, .ref (M 0)), (1, .int n), (2, .int dy)] := hl
  obtain ⟨hM, hI⟩ := hP
  refine lv_aload_n hx hb dX11_hung_0 rfl (lv_at hl 0 rfl) ?_
  refine lv_iload_n hx hb dX11_hung_1 rfl (lv_at hl 1 rfl) ?_
  refine cr_V (As := [.int n]) (rest := []) hx hb hml hown hu hE (c_isNotice l E A σ M n) kX11_isNotice u957 (md_obj hM) rfl rfl (⟨hM, hI⟩) ⟨Nat.le_of_ble_eq_true rfl, Nat.le_of_ble_eq_true rfl⟩ rfl hl.1 rfl (Nat.le_of_ble_eq_true rfl) ⟨Nat.le_of_ble_eq_true rfl, Nat.le_of_ble_eq_true rfl⟩ dX11_hung_2 ?_
  refine onB (fun b1 => ?_) (fun b1 => ?_)
  · refine lv_if_eq (tgt := 28) hx hb dX11_hung_5 (by decide) (fun c2 => absurd c2 (by decide)) (fun _ => ?_)
    refine lv_iload_n hx hb dX11_hung_8 rfl (lv_at hl 2 rfl) ?_
    refine lv_iconst (v := 0) hx hb dX11_hung_9 (by decide) ?_
    refine lv_sipush (v := 20000) hx hb dX11_hung_10 (by decide) ?_
    refine cr_S (As := [.int dy, .int 0, .int 20000]) (rest := []) hx hb hml hown hu hE (c_in l E dy 0 20000) kX11_in u873 (trivial) ⟨Nat.le_of_ble_eq_true rfl, Nat.le_of_ble_eq_true rfl⟩ rfl hl.1 rfl (Nat.le_of_ble_eq_true rfl) ⟨Nat.le_of_ble_eq_true rfl, Nat.le_of_ble_eq_true rfl⟩ dX11_hung_13 ?_
    refine onB (fun b3 => ?_) (fun b3 => ?_)
    · refine lv_if_eq (tgt := 28) hx hb dX11_hung_16 (by decide) (fun c4 => absurd c4 (by decide)) (fun _ => ?_)
      refine lv_aload_n hx hb dX11_hung_19 rfl (lv_at hl 0 rfl) ?_
      refine lv_iload_n hx hb dX11_hung_20 rfl (lv_at hl 1 rfl) ?_
      refine lv_iload_n hx hb dX11_hung_21 rfl (lv_at hl 2 rfl) ?_
      refine cr_V (As := [.int n, .int dy]) (rest := []) hx hb hml hown hu hE (c_hungOf l E A σ M n dy) kX11_hungOf u965 (md_obj hM) rfl rfl (⟨hM, hI, ⟨isN_ok hI b1, okD_of b3⟩⟩) ⟨Nat.le_of_ble_eq_true rfl, Nat.le_of_ble_eq_true rfl⟩ rfl hl.1 rfl (Nat.le_of_ble_eq_true rfl) ⟨Nat.le_of_ble_eq_true rfl, Nat.le_of_ble_eq_true rfl⟩ dX11_hung_22 ?_
      refine lv_goto (tgt := 29) hx hb dX11_hung_25 (by decide) ?_
      exact cr_ri hx hb hr hlocks (by simp only [m_hungA, b1, b3, Bool.not_true, Bool.not_false, Bool.and_true, Bool.true_and, Bool.and_false, Bool.false_and, Bool.or_true, Bool.true_or, Bool.or_false, Bool.false_or, Bool.and_self, Bool.or_self, eq_self, if_true, Bool.false_eq_true, if_false]) dX11_hung_29
    · refine lv_if_eq (tgt := 28) hx hb dX11_hung_16 (by decide) (fun _ => ?_) (fun c5 => absurd (by decide) c5)
      refine lv_iconst (v := (-1)) hx hb dX11_hung_28 (by decide) ?_
      exact cr_ri hx hb hr hlocks (by simp only [m_hungA, b1, b3, Bool.not_true, Bool.not_false, Bool.and_true, Bool.true_and, Bool.and_false, Bool.false_and, Bool.or_true, Bool.true_or, Bool.or_false, Bool.false_or, Bool.and_self, Bool.or_self, eq_self, if_true, Bool.false_eq_true, if_false]) dX11_hung_29
  · refine lv_if_eq (tgt := 28) hx hb dX11_hung_5 (by decide) (fun _ => ?_) (fun c6 => absurd (by decide) c6)
    refine lv_iconst (v := (-1)) hx hb dX11_hung_28 (by decide) ?_
    exact cr_ri hx hb hr hlocks (by simp only [m_hungA, b1, Bool.not_true, Bool.not_false, Bool.and_true, Bool.true_and, Bool.and_false, Bool.false_and, Bool.or_true, Bool.true_or, Bool.or_false, Bool.false_or, Bool.and_self, Bool.or_self, eq_self, if_true, Bool.false_eq_true, if_false]) dX11_hung_29
set_option maxHeartbeats 1000000 in
set_option maxRecDepth 20000 in
theorem c_wanted (l : Launch) (E : EV) (A : Nat → Prop) (σ : St) (M : Nat → Nat) (n dy : Int32) : Ct l E yX11_wanted cX11_wanted 3 (some .int) 2 47 0 0 A [.ref (M 0), .int n, .int dy] (fun H => Md E A σ M H ∧ InvM σ ∧ okN σ n) (fun v H => v = some (.int (m_wanted σ n dy)) ∧ Md E A σ M H) := by
  refine Ct.of (by decide +kernel) (Nat.le_of_ble_eq_true rfl) (fun pg ev s mi bel mth cd hx hb hr hml hown hu hlocks hnm hE hP hA hZ ls hl => ?_)
  have hl : lv_has ls 3 [(0, .ref (M 0)), (1, .int n), (2, .int dy)] := hl
  have hS : va_S A s.heap s.heap [] := va_S.rf
  obtain ⟨hM, hI, hX⟩ := hP
  refine lv_aload_n hx hb dX11_wanted_0 rfl (lv_at hl 0 rfl) ?_
  refine lv_aload_n hx hb dX11_wanted_1 rfl (lv_at hl 0 rfl) ?_
  refine rd_get (k := 17) (v := .ref (M 17)) hx hb hown hu hE ok12 (md_obj hM) (by decide) u774 (fun _ h => h) rfl dX11_wanted_2 ?_
  refine lv_iload_n hx hb dX11_wanted_5 rfl (lv_at hl 1 rfl) ?_
  refine mr_ld (t := 17) hx hb hE hM rfl (by decide) (okN_in hI hX) dX11_wanted_6 ?_
  refine lv_iload_n hx hb dX11_wanted_7 rfl (lv_at hl 2 rfl) ?_
  refine lv_bipush (v := 6) hx hb dX11_wanted_8 (by decide) ?_
  refine ct_V (As := [.int (gA σ 17 n), .int dy, .int 6]) (rest := []) hx hb hml hown hu hE hZ hS (fun _ h => h) (fun q h => hA q (Nat.le_trans hS.1 h)) (c_asks l E A σ M (gA σ 17 n) dy 6) kX11_asks u933 (md_obj hM) rfl rfl (⟨hM, hI, one_ok hI hX, by decide⟩) ⟨Nat.le_of_ble_eq_true rfl, Nat.le_of_ble_eq_true rfl⟩ rfl hl.1 rfl (Nat.le_of_ble_eq_true rfl) ⟨Nat.le_of_ble_eq_true rfl, Nat.le_of_ble_eq_true rfl⟩ dX11_wanted_10 (fun v1 H1 locs1 hR hS hz hk => ?_)
  obtain ⟨rfl, hM⟩ := hR
  refine lv_aload_n hx hb dX11_wanted_13 rfl (lv_at hl 0 rfl) ?_
  refine lv_aload_n hx hb dX11_wanted_14 rfl (lv_at hl 0 rfl) ?_
  refine rd_get (k := 18) (v := .ref (M 18)) hx hb hown hu hE ok12 (md_obj hM) (by decide) u775 (fun _ h => h) rfl dX11_wanted_15 ?_
  refine lv_iload_n hx hb dX11_wanted_18 rfl (lv_at hl 1 rfl) ?_
  refine mr_ld (t := 18) hx hb hE hM rfl (by decide) (okN_in hI hX) dX11_wanted_19 ?_
  refine lv_iload_n hx hb dX11_wanted_20 rfl (lv_at hl 2 rfl) ?_
  refine lv_bipush (v := 6) hx hb dX11_wanted_21 (by decide) ?_
  refine ct_V (As := [.int (gA σ 18 n), .int dy, .int 6]) (rest := [.int (m_asks σ (gA σ 17 n) dy 6)]) hx hb hml hown hu hE hZ hS (fun _ h => h) (fun q h => hA q (Nat.le_trans hS.1 h)) (c_asks l E A σ M (gA σ 18 n) dy 6) kX11_asks u933 (md_obj hM) rfl rfl (⟨hM, hI, oth_ok hI hX, by decide⟩) ⟨Nat.le_of_ble_eq_true rfl, Nat.le_of_ble_eq_true rfl⟩ rfl hl.1 rfl (Nat.le_of_ble_eq_true rfl) ⟨Nat.le_of_ble_eq_true rfl, Nat.le_of_ble_eq_true rfl⟩ dX11_wanted_23 (fun v2 H1 locs1 hR hS hz hk => ?_)
  obtain ⟨rfl, hM⟩ := hR
  refine va_mmax hx hb (by rw [hml]; exact hl.1.symm) hown (hu _ u981) (hu _ u218) (hu _ u11) (hu _ u219) (Nat.le_of_ble_eq_true rfl) (Nat.le_of_ble_eq_true rfl) (Nat.le_of_ble_eq_true rfl) (Nat.le_of_ble_eq_true rfl) dX11_wanted_26 ?_
  exact ct_ri hx hb hr hlocks hS (⟨(by rfl), hM⟩) (Nat.le_of_ble_eq_true rfl) (Nat.le_of_ble_eq_true rfl) dX11_wanted_29
set_option maxHeartbeats 1000000 in
set_option maxRecDepth 20000 in
theorem c_ripeOf (l : Launch) (E : EV) (A : Nat → Prop) (σ : St) (M : Nat → Nat) (n : Int32) : Ct l E yX11_ripeOf cX11_ripeOf 4 (some .int) 3 69 0 0 A [.ref (M 0), .int n] (fun H => Md E A σ M H ∧ InvM σ ∧ okN σ n) (fun v H => v = some (.int (m_ripe σ n)) ∧ Md E A σ M H) := by
  refine Ct.of (by decide +kernel) (Nat.le_of_ble_eq_true rfl) (fun pg ev s mi bel mth cd hx hb hr hml hown hu hlocks hnm hE hP hA hZ ls hl => ?_)
  have hl : lv_has ls 4 [(0, .ref (M 0)), (1, .int n)] := hl
  have hS : va_S A s.heap s.heap [] := va_S.rf
  obtain ⟨hM, hI, hX⟩ := hP
  have hpo := pos_ok hI hX
  have hp1 := bnd_nI hpo
  have hp2 := bnd_le (N := 20000) hpo
  refine lv_iconst (v := 0) hx hb dX11_ripeOf_0 (by decide) ?_
  refine lv_istore_n (lv' := [(2, .int 0), (0, .ref (M 0)), (1, .int n)]) hx hb dX11_ripeOf_1 rfl hl (by decide) rfl (fun ls hl => ?_)
  refine lv_aload_n hx hb dX11_ripeOf_2 rfl (lv_at hl 1 rfl) ?_
  refine rd_get (k := 19) (v := .ref (M 19)) hx hb hown hu hE ok12 (md_obj hM) (by decide) u776 (fun _ h => h) rfl dX11_ripeOf_3 ?_
  refine lv_iload_n hx hb dX11_ripeOf_6 rfl (lv_at hl 2 rfl) ?_
  refine mr_ld (t := 19) hx hb hE hM rfl (by decide) (okN_in hI hX) dX11_ripeOf_7 ?_
  rw [show gA σ 19 n = nI (gA σ 19 n).toNatClampNeg from hp1]
  refine lv_istore_n (lv' := [(3, .int (nI (gA σ 19 n).toNatClampNeg)), (2, .int 0), (0, .ref (M 0)), (1, .int n)]) hx hb dX11_ripeOf_8 rfl hl (by decide) rfl (fun ls hl => ?_)
  obtain ⟨T, hT⟩ : ∃ z, z = m_ripe σ n := ⟨_, rfl⟩
  have lo : ∀ (f d : Nat) (has : Int32), (d + f = 20001) → (m_riL σ n f d has = T) → ∀ (H1 : Heap) (locs1 : List Loc), Md E A σ M H1 → va_S A s.heap H1 locs1 → ∀ (ls : Array Slot), lv_has ls 4 [(0, .ref (M 0)), (1, .int n), (2, .int has), (3, .int (nI d))] → W pg l ev { frames := 3, cells := 0, slots := 0, locals := 69 } s mi [.ref (M 0), .int n].toArray bel mth cd H1 locs1 0 0 (QT bel s [.ref (M 0), .int n].toArray 0 0 A (fun v H => v = some (.int (m_ripe σ n)) ∧ Md E A σ M H)) (F0 mi 9 ls []) := by
    intro f
    induction f with
    | zero =>
      intro d has hk hi H1 locs1 hM hS ls hl
      refine lv_iload_n hx hb dX11_ripeOf_9 rfl (lv_at hl 3 rfl) ?_
      refine lv_sipush (v := 20000) hx hb dX11_ripeOf_10 (by decide) ?_
      refine lv_icmp_gt (tgt := 55) hx hb dX11_ripeOf_13 (by decide) (fun c1 => ?_) (fun c1 => absurd (show nI 20000 < _ from nI_lt (by omega) (by omega)) c1)
      refine lv_iconst (v := (-1)) hx hb dX11_ripeOf_55 (by decide) ?_
      exact ct_ri hx hb hr hlocks hS (⟨by simp only [m_riL] at hi; rw [← hT, ← hi], hM⟩) (Nat.le_of_ble_eq_true rfl) (Nat.le_of_ble_eq_true rfl) dX11_ripeOf_56
    | succ f ih =>
      intro d has hk hi H1 locs1 hM hS ls hl
      refine lv_iload_n hx hb dX11_ripeOf_9 rfl (lv_at hl 3 rfl) ?_
      refine lv_sipush (v := 20000) hx hb dX11_ripeOf_10 (by decide) ?_
      refine lv_icmp_gt (tgt := 55) hx hb dX11_ripeOf_13 (by decide) (fun c2 => absurd c2 (show ¬ nI 20000 < _ from nI_nlt (by omega) (by omega))) (fun c2 => ?_)
      refine lv_iload_n hx hb dX11_ripeOf_16 rfl (lv_at hl 2 rfl) ?_
      refine lv_aload_n hx hb dX11_ripeOf_17 rfl (lv_at hl 0 rfl) ?_
      refine lv_iload_n hx hb dX11_ripeOf_18 rfl (lv_at hl 1 rfl) ?_
      refine lv_iload_n hx hb dX11_ripeOf_19 rfl (lv_at hl 3 rfl) ?_
      refine ct_V (As := [.int n, .int (nI d)]) (rest := [.int has]) hx hb hml hown hu hE hZ hS (fun _ h => h) (fun q h => hA q (Nat.le_trans hS.1 h)) (c_wanted l E A σ M n (nI d)) kX11_wanted u977 (md_obj hM) rfl rfl (⟨hM, hI, hX⟩) ⟨Nat.le_of_ble_eq_true rfl, Nat.le_of_ble_eq_true rfl⟩ rfl hl.1 rfl (Nat.le_of_ble_eq_true rfl) ⟨Nat.le_of_ble_eq_true rfl, Nat.le_of_ble_eq_true rfl⟩ dX11_ripeOf_20 (fun v3 H1 locs1 hR hS hz hk => ?_)
      obtain ⟨rfl, hM⟩ := hR
      refine lv_icmp_lt (tgt := 28) hx hb dX11_ripeOf_23 (by decide) (fun c4 => ?_) (fun c4 => ?_)
      · refine lv_iload_n hx hb dX11_ripeOf_28 rfl (lv_at hl 3 rfl) ?_
        refine lv_aload_n hx hb dX11_ripeOf_29 rfl (lv_at hl 0 rfl) ?_
        refine rd_get (k := 19) (v := .ref (M 19)) hx hb hown hu hE ok12 (md_obj hM) (by decide) u776 (fun _ h => h) rfl dX11_ripeOf_30 ?_
        refine lv_iload_n hx hb dX11_ripeOf_33 rfl (lv_at hl 1 rfl) ?_
        refine mr_ld (t := 19) hx hb hE hM rfl (by decide) (okN_in hI hX) dX11_ripeOf_34 ?_
        refine lv_icmp_le (tgt := 49) hx hb dX11_ripeOf_35 (by decide) (fun c5 => ?_) (fun c5 => ?_)
        · refine lv_iinc (v := nI (d + 1)) (lv' := [(3, .int (nI (d + 1))), (0, .ref (M 0)), (1, .int n), (2, .int has)]) hx hb dX11_ripeOf_49 hl (k := 3) rfl (nI_1 d) (by decide) rfl (fun ls hl => ?_)
          refine lv_goto (tgt := 9) hx hb dX11_ripeOf_52 (by decide) ?_
          exact ih (d + 1) _ (by omega) (by simp only [m_riL, decide_eq_true c4, decide_eq_false (Int32.not_lt.mpr c5), Bool.not_true, Bool.not_false, Bool.and_true, Bool.true_and, Bool.and_false, Bool.false_and, Bool.or_true, Bool.true_or, Bool.or_false, Bool.false_or, Bool.and_self, Bool.or_self, eq_self, if_true, Bool.false_eq_true, if_false] at hi; exact hi) _ _ hM hS _ (lv_sub hl [1, 2, 3, 0] rfl)
        · refine lv_aload_n hx hb dX11_ripeOf_38 rfl (lv_at hl 0 rfl) ?_
          refine lv_iload_n hx hb dX11_ripeOf_39 rfl (lv_at hl 3 rfl) ?_
          refine cr_V (As := [.int (nI d)]) (rest := []) hx hb hml hown hu hE (c_isFree l E A σ M (nI d)) kX11_isFree u892 (md_obj hM) rfl rfl (⟨hM, hI, okD_nI (by omega)⟩) ⟨Nat.le_of_ble_eq_true rfl, Nat.le_of_ble_eq_true rfl⟩ rfl hl.1 rfl (Nat.le_of_ble_eq_true rfl) ⟨Nat.le_of_ble_eq_true rfl, Nat.le_of_ble_eq_true rfl⟩ dX11_ripeOf_40 ?_
          refine onB (fun b6 => ?_) (fun b6 => ?_)
          · refine lv_if_eq (tgt := 49) hx hb dX11_ripeOf_43 (by decide) (fun c7 => absurd c7 (by decide)) (fun _ => ?_)
            refine lv_iinc (v := has + 1) (lv' := [(2, .int (has + 1)), (0, .ref (M 0)), (1, .int n), (3, .int (nI d))]) hx hb dX11_ripeOf_46 hl (k := 2) rfl rfl (by decide) rfl (fun ls hl => ?_)
            refine lv_iinc (v := nI (d + 1)) (lv' := [(3, .int (nI (d + 1))), (2, .int (has + 1)), (0, .ref (M 0)), (1, .int n)]) hx hb dX11_ripeOf_49 hl (k := 3) rfl (nI_1 d) (by decide) rfl (fun ls hl => ?_)
            refine lv_goto (tgt := 9) hx hb dX11_ripeOf_52 (by decide) ?_
            exact ih (d + 1) _ (by omega) (by simp only [m_riL, decide_eq_true c4, decide_eq_true (Int32.not_le.mp c5), b6, Bool.not_true, Bool.not_false, Bool.and_true, Bool.true_and, Bool.and_false, Bool.false_and, Bool.or_true, Bool.true_or, Bool.or_false, Bool.false_or, Bool.and_self, Bool.or_self, eq_self, if_true, Bool.false_eq_true, if_false] at hi; exact hi) _ _ hM hS _ (lv_sub hl [2, 3, 1, 0] rfl)
          · refine lv_if_eq (tgt := 49) hx hb dX11_ripeOf_43 (by decide) (fun _ => ?_) (fun c8 => absurd (by decide) c8)
            refine lv_iinc (v := nI (d + 1)) (lv' := [(3, .int (nI (d + 1))), (0, .ref (M 0)), (1, .int n), (2, .int has)]) hx hb dX11_ripeOf_49 hl (k := 3) rfl (nI_1 d) (by decide) rfl (fun ls hl => ?_)
            refine lv_goto (tgt := 9) hx hb dX11_ripeOf_52 (by decide) ?_
            exact ih (d + 1) _ (by omega) (by simp only [m_riL, decide_eq_true c4, decide_eq_true (Int32.not_le.mp c5), b6, Bool.not_true, Bool.not_false, Bool.and_true, Bool.true_and, Bool.and_false, Bool.false_and, Bool.or_true, Bool.true_or, Bool.or_false, Bool.false_or, Bool.and_self, Bool.or_self, eq_self, if_true, Bool.false_eq_true, if_false] at hi; exact hi) _ _ hM hS _ (lv_sub hl [1, 2, 3, 0] rfl)
      · refine lv_iload_n hx hb dX11_ripeOf_26 rfl (lv_at hl 3 rfl) ?_
        exact ct_ri hx hb hr hlocks hS (⟨by simp only [m_riL, decide_eq_false c4, Bool.not_true, Bool.not_false, Bool.and_true, Bool.true_and, Bool.and_false, Bool.false_and, Bool.or_true, Bool.true_or, Bool.or_false, Bool.false_or, Bool.and_self, Bool.or_self, eq_self, if_true, Bool.false_eq_true, if_false] at hi; rw [← hT, ← hi], hM⟩) (Nat.le_of_ble_eq_true rfl) (Nat.le_of_ble_eq_true rfl) dX11_ripeOf_27
  exact lo (20001 - (gA σ 19 n).toNatClampNeg) (gA σ 19 n).toNatClampNeg 0 (by omega) hT.symm _ _ hM hS _ (lv_sub hl [2, 3, 1, 0] rfl)
set_option maxHeartbeats 1000000 in
set_option maxRecDepth 20000 in
theorem c_ripe (l : Launch) (E : EV) (A : Nat → Prop) (σ : St) (M : Nat → Nat) (n : Int32) : Ct l E yX11_ripe cX11_ripe 2 (some .int) 4 92 0 0 A [.ref (M 0), .int n] (fun H => Md E A σ M H ∧ InvM σ) (fun v H => v = some (.int (m_ripeA σ n)) ∧ Md E A σ M H) := by
  refine Ct.of (by decide +kernel) (Nat.le_of_ble_eq_true rfl) (fun pg ev s mi bel mth cd hx hb hr hml hown hu hlocks hnm hE hP hA hZ ls hl => ?_)
  have hl : lv_has ls 2 [(0, .ref (M 0)), (1, .int n)] := hl
  have hS : va_S A s.heap s.heap [] := va_S.rf
  obtain ⟨hM, hI⟩ := hP
  refine lv_aload_n hx hb dX11_ripe_0 rfl (lv_at hl 0 rfl) ?_
  refine lv_iload_n hx hb dX11_ripe_1 rfl (lv_at hl 1 rfl) ?_
  refine cr_V (As := [.int n]) (rest := []) hx hb hml hown hu hE (c_isNotice l E A σ M n) kX11_isNotice u957 (md_obj hM) rfl rfl (⟨hM, hI⟩) ⟨Nat.le_of_ble_eq_true rfl, Nat.le_of_ble_eq_true rfl⟩ rfl hl.1 rfl (Nat.le_of_ble_eq_true rfl) ⟨Nat.le_of_ble_eq_true rfl, Nat.le_of_ble_eq_true rfl⟩ dX11_ripe_2 ?_
  refine onB (fun b1 => ?_) (fun b1 => ?_)
  · refine lv_if_eq (tgt := 16) hx hb dX11_ripe_5 (by decide) (fun c2 => absurd c2 (by decide)) (fun _ => ?_)
    refine lv_aload_n hx hb dX11_ripe_8 rfl (lv_at hl 0 rfl) ?_
    refine lv_iload_n hx hb dX11_ripe_9 rfl (lv_at hl 1 rfl) ?_
    refine ct_V (As := [.int n]) (rest := []) hx hb hml hown hu hE hZ hS (fun _ h => h) (fun q h => hA q (Nat.le_trans hS.1 h)) (c_ripeOf l E A σ M n) kX11_ripeOf u973 (md_obj hM) rfl rfl (⟨hM, hI, isN_ok hI b1⟩) ⟨Nat.le_of_ble_eq_true rfl, Nat.le_of_ble_eq_true rfl⟩ rfl hl.1 rfl (Nat.le_of_ble_eq_true rfl) ⟨Nat.le_of_ble_eq_true rfl, Nat.le_of_ble_eq_true rfl⟩ dX11_ripe_10 (fun v3 H1 locs1 hR hS hz hk => ?_)
    obtain ⟨rfl, hM⟩ := hR
    refine lv_goto (tgt := 17) hx hb dX11_ripe_13 (by decide) ?_
    exact ct_ri hx hb hr hlocks hS (⟨(by simp only [m_ripeA, b1, Bool.not_true, Bool.not_false, Bool.and_true, Bool.true_and, Bool.and_false, Bool.false_and, Bool.or_true, Bool.true_or, Bool.or_false, Bool.false_or, Bool.and_self, Bool.or_self, eq_self, if_true, Bool.false_eq_true, if_false]), hM⟩) (Nat.le_of_ble_eq_true rfl) (Nat.le_of_ble_eq_true rfl) dX11_ripe_17
  · refine lv_if_eq (tgt := 16) hx hb dX11_ripe_5 (by decide) (fun _ => ?_) (fun c4 => absurd (by decide) c4)
    refine lv_iconst (v := (-1)) hx hb dX11_ripe_16 (by decide) ?_
    exact ct_ri hx hb hr hlocks hS (⟨(by simp only [m_ripeA, b1, Bool.not_true, Bool.not_false, Bool.and_true, Bool.true_and, Bool.and_false, Bool.false_and, Bool.or_true, Bool.true_or, Bool.or_false, Bool.false_or, Bool.and_self, Bool.or_self, eq_self, if_true, Bool.false_eq_true, if_false]), hM⟩) (Nat.le_of_ble_eq_true rfl) (Nat.le_of_ble_eq_true rfl) dX11_ripe_17
set_option maxHeartbeats 1000000 in
set_option maxRecDepth 20000 in
theorem c_objected (l : Launch) (E : EV) (A : Nat → Prop) (σ : St) (M : Nat → Nat) (n : Int32) : Cr l E yX11_objected cX11_objected 4 (some .int) 0 0 [.ref (M 0), .int n] (fun H => Md E A σ M H ∧ InvM σ) (some (.int (m_objd σ n))) := by
  refine Cr.of (by decide +kernel) (Nat.le_of_ble_eq_true rfl) (fun pg ev s mi bel mth cd hx hb hr hml hown hu hlocks hE hP ls hl => ?_)
  have hl : lv_has ls 4 [(0, .ref (M 0)), (1, .int n)] := hl
  obtain ⟨hM, hI⟩ := hP
  have hn := cnt_le (N := 60) hI.1.2.2.2.2.2.1
  have hc := cnt_nI hI.1.2.2.2.2.2.1
  refine lv_iconst (v := 0) hx hb dX11_objected_0 (by decide) ?_
  refine lv_istore_n (lv' := [(2, .int 0), (0, .ref (M 0)), (1, .int n)]) hx hb dX11_objected_1 rfl hl (by decide) rfl (fun ls hl => ?_)
  refine lv_iconst (v := 0) hx hb dX11_objected_2 (by decide) ?_
  refine lv_istore_n (lv' := [(3, .int 0), (2, .int 0), (0, .ref (M 0)), (1, .int n)]) hx hb dX11_objected_3 rfl hl (by decide) rfl (fun ls hl => ?_)
  obtain ⟨T, hT⟩ : ∃ z, z = m_objd σ n := ⟨_, rfl⟩
  have lo : ∀ (f k : Nat) (r : Int32), (k + f = nn σ 26) → (m_obL σ n f k r = T) → ∀ (ls : Array Slot), lv_has ls 4 [(0, .ref (M 0)), (1, .int n), (2, .int r), (3, .int (nI k))] → W pg l ev { frames := 0, cells := 0, slots := 0, locals := 0 } s mi [.ref (M 0), .int n].toArray bel mth cd s.heap [] 0 0 (QR bel s [.ref (M 0), .int n].toArray (some (.int (m_objd σ n)))) (F0 mi 4 ls []) := by
    intro f
    induction f with
    | zero =>
      intro k r hk hi ls hl
      refine lv_iload_n hx hb dX11_objected_4 rfl (lv_at hl 3 rfl) ?_
      refine lv_aload_n hx hb dX11_objected_5 rfl (lv_at hl 0 rfl) ?_
      refine rd_get (k := 26) (v := .int (σ 26 0)) hx hb hown hu hE ok12 (md_obj hM) (by decide) u783 (fun _ h => h) rfl dX11_objected_6 ?_
      refine lv_icmp_ge (tgt := 46) hx hb dX11_objected_9 (by decide) (fun c1 => ?_) (fun c1 => absurd (by rw [hc]; exact nI_le (by omega) (by omega)) c1)
      refine lv_iload_n hx hb dX11_objected_46 rfl (lv_at hl 2 rfl) ?_
      exact cr_ri hx hb hr hlocks (by simp only [m_obL] at hi; rw [← hT, ← hi]) dX11_objected_47
    | succ f ih =>
      intro k r hk hi ls hl
      refine lv_iload_n hx hb dX11_objected_4 rfl (lv_at hl 3 rfl) ?_
      refine lv_aload_n hx hb dX11_objected_5 rfl (lv_at hl 0 rfl) ?_
      refine rd_get (k := 26) (v := .int (σ 26 0)) hx hb hown hu hE ok12 (md_obj hM) (by decide) u783 (fun _ h => h) rfl dX11_objected_6 ?_
      refine lv_icmp_ge (tgt := 46) hx hb dX11_objected_9 (by decide) (fun c2 => absurd c2 (by rw [hc]; exact nI_ge (by omega) (by omega))) (fun c2 => ?_)
      refine lv_iload_n hx hb dX11_objected_12 rfl (lv_at hl 2 rfl) ?_
      refine lv_aload_n hx hb dX11_objected_13 rfl (lv_at hl 0 rfl) ?_
      refine rd_get (k := 24) (v := .ref (M 24)) hx hb hown hu hE ok12 (md_obj hM) (by decide) u781 (fun _ h => h) rfl dX11_objected_14 ?_
      refine lv_iload_n hx hb dX11_objected_17 rfl (lv_at hl 3 rfl) ?_
      refine mr_ld (t := 24) hx hb hE hM rfl (by decide) (vp_in_nI (N := 60) (by omega) (by decide)) dX11_objected_18 ?_
      refine lv_iload_n hx hb dX11_objected_19 rfl (lv_at hl 1 rfl) ?_
      refine lv_icmp_ne (tgt := 37) hx hb dX11_objected_20 (by decide) (fun c3 => ?_) (fun c3 => ?_)
      · refine lv_iconst (v := 0) hx hb dX11_objected_37 (by decide) ?_
        refine lv_iadd hx hb dX11_objected_38 ?_
        refine lv_istore_n (lv' := [(2, .int (r + 0)), (0, .ref (M 0)), (1, .int n), (3, .int (nI k))]) hx hb dX11_objected_39 rfl hl (by decide) rfl (fun ls hl => ?_)
        refine lv_iinc (v := nI (k + 1)) (lv' := [(3, .int (nI (k + 1))), (2, .int (r + 0)), (0, .ref (M 0)), (1, .int n)]) hx hb dX11_objected_40 hl (k := 3) rfl (nI_1 k) (by decide) rfl (fun ls hl => ?_)
        refine lv_goto (tgt := 4) hx hb dX11_objected_43 (by decide) ?_
        exact ih (k + 1) _ (by omega) (by simp only [m_obL, decide_eq_false c3, Bool.not_true, Bool.not_false, Bool.and_true, Bool.true_and, Bool.and_false, Bool.false_and, Bool.or_true, Bool.true_or, Bool.or_false, Bool.false_or, Bool.and_self, Bool.or_self, eq_self, if_true, Bool.false_eq_true, if_false] at hi; exact hi) _ (lv_sub hl [2, 3, 1, 0] rfl)
      · refine lv_aload_n hx hb dX11_objected_23 rfl (lv_at hl 0 rfl) ?_
        refine rd_get (k := 25) (v := .ref (M 25)) hx hb hown hu hE ok12 (md_obj hM) (by decide) u782 (fun _ h => h) rfl dX11_objected_24 ?_
        refine lv_iload_n hx hb dX11_objected_27 rfl (lv_at hl 3 rfl) ?_
        refine mr_ld (t := 25) hx hb hE hM rfl (by decide) (vp_in_nI (N := 60) (by omega) (by decide)) dX11_objected_28 ?_
        refine lv_iconst (v := 2) hx hb dX11_objected_29 (by decide) ?_
        refine lv_icmp_ge (tgt := 37) hx hb dX11_objected_30 (by decide) (fun c4 => ?_) (fun c4 => ?_)
        · refine lv_iconst (v := 0) hx hb dX11_objected_37 (by decide) ?_
          refine lv_iadd hx hb dX11_objected_38 ?_
          refine lv_istore_n (lv' := [(2, .int (r + 0)), (0, .ref (M 0)), (1, .int n), (3, .int (nI k))]) hx hb dX11_objected_39 rfl hl (by decide) rfl (fun ls hl => ?_)
          refine lv_iinc (v := nI (k + 1)) (lv' := [(3, .int (nI (k + 1))), (2, .int (r + 0)), (0, .ref (M 0)), (1, .int n)]) hx hb dX11_objected_40 hl (k := 3) rfl (nI_1 k) (by decide) rfl (fun ls hl => ?_)
          refine lv_goto (tgt := 4) hx hb dX11_objected_43 (by decide) ?_
          exact ih (k + 1) _ (by omega) (by simp only [m_obL, decide_eq_true c3, decide_eq_false (Int32.not_lt.mpr c4), Bool.not_true, Bool.not_false, Bool.and_true, Bool.true_and, Bool.and_false, Bool.false_and, Bool.or_true, Bool.true_or, Bool.or_false, Bool.false_or, Bool.and_self, Bool.or_self, eq_self, if_true, Bool.false_eq_true, if_false] at hi; exact hi) _ (lv_sub hl [2, 3, 1, 0] rfl)
        · refine lv_iconst (v := 1) hx hb dX11_objected_33 (by decide) ?_
          refine lv_goto (tgt := 38) hx hb dX11_objected_34 (by decide) ?_
          refine lv_iadd hx hb dX11_objected_38 ?_
          refine lv_istore_n (lv' := [(2, .int (r + 1)), (0, .ref (M 0)), (1, .int n), (3, .int (nI k))]) hx hb dX11_objected_39 rfl hl (by decide) rfl (fun ls hl => ?_)
          refine lv_iinc (v := nI (k + 1)) (lv' := [(3, .int (nI (k + 1))), (2, .int (r + 1)), (0, .ref (M 0)), (1, .int n)]) hx hb dX11_objected_40 hl (k := 3) rfl (nI_1 k) (by decide) rfl (fun ls hl => ?_)
          refine lv_goto (tgt := 4) hx hb dX11_objected_43 (by decide) ?_
          exact ih (k + 1) _ (by omega) (by simp only [m_obL, decide_eq_true c3, decide_eq_true (Int32.not_le.mp c4), Bool.not_true, Bool.not_false, Bool.and_true, Bool.true_and, Bool.and_false, Bool.false_and, Bool.or_true, Bool.true_or, Bool.or_false, Bool.false_or, Bool.and_self, Bool.or_self, eq_self, if_true, Bool.false_eq_true, if_false] at hi; exact hi) _ (lv_sub hl [2, 3, 1, 0] rfl)
  exact lo (nn σ 26) 0 0 (by omega) hT.symm _ (lv_sub hl [2, 3, 1, 0] rfl)
set_option maxHeartbeats 1000000 in
set_option maxRecDepth 20000 in
theorem c_isRipe (l : Launch) (E : EV) (A : Nat → Prop) (σ : St) (M : Nat → Nat) (n dy : Int32) : Ct l E yX11_isRipe cX11_isRipe 3 (some .boolean) 3 69 0 0 A [.ref (M 0), .int n, .int dy] (fun H => Md E A σ M H ∧ InvM σ ∧ okN σ n ∧ okD dy) (fun v H => v = some (.int (bI (m_isRipe σ n dy))) ∧ Md E A σ M H) := by
  refine Ct.of (by decide +kernel) (Nat.le_of_ble_eq_true rfl) (fun pg ev s mi bel mth cd hx hb hr hml hown hu hlocks hnm hE hP hA hZ ls hl => ?_)
  have hl : lv_has ls 3 [(0, .ref (M 0)), (1, .int n), (2, .int dy)] := hl
  have hS : va_S A s.heap s.heap [] := va_S.rf
  obtain ⟨hM, hI, hX⟩ := hP
  refine lv_aload_n hx hb dX11_isRipe_0 rfl (lv_at hl 0 rfl) ?_
  refine lv_iload_n hx hb dX11_isRipe_1 rfl (lv_at hl 1 rfl) ?_
  refine lv_iload_n hx hb dX11_isRipe_2 rfl (lv_at hl 2 rfl) ?_
  refine cr_V (As := [.int n, .int dy]) (rest := []) hx hb hml hown hu hE (c_hungOf l E A σ M n dy) kX11_hungOf u965 (md_obj hM) rfl rfl (⟨hM, hI, hX⟩) ⟨Nat.le_of_ble_eq_true rfl, Nat.le_of_ble_eq_true rfl⟩ rfl hl.1 rfl (Nat.le_of_ble_eq_true rfl) ⟨Nat.le_of_ble_eq_true rfl, Nat.le_of_ble_eq_true rfl⟩ dX11_isRipe_3 ?_
  refine lv_aload_n hx hb dX11_isRipe_6 rfl (lv_at hl 0 rfl) ?_
  refine lv_iload_n hx hb dX11_isRipe_7 rfl (lv_at hl 1 rfl) ?_
  refine lv_iload_n hx hb dX11_isRipe_8 rfl (lv_at hl 2 rfl) ?_
  refine ct_V (As := [.int n, .int dy]) (rest := [.int (m_hung σ n dy)]) hx hb hml hown hu hE hZ hS (fun _ h => h) (fun q h => hA q (Nat.le_trans hS.1 h)) (c_wanted l E A σ M n dy) kX11_wanted u977 (md_obj hM) rfl rfl (⟨hM, hI, hX.1⟩) ⟨Nat.le_of_ble_eq_true rfl, Nat.le_of_ble_eq_true rfl⟩ rfl hl.1 rfl (Nat.le_of_ble_eq_true rfl) ⟨Nat.le_of_ble_eq_true rfl, Nat.le_of_ble_eq_true rfl⟩ dX11_isRipe_9 (fun v1 H1 locs1 hR hS hz hk => ?_)
  obtain ⟨rfl, hM⟩ := hR
  refine lv_icmp_lt (tgt := 27) hx hb dX11_isRipe_12 (by decide) (fun c2 => ?_) (fun c2 => ?_)
  · refine lv_iconst (v := 0) hx hb dX11_isRipe_27 (by decide) ?_
    exact ct_rz hx hb hr hlocks hS (⟨(by simp only [m_isRipe, decide_eq_true c2, Bool.not_true, Bool.not_false, Bool.and_true, Bool.true_and, Bool.and_false, Bool.false_and, Bool.or_true, Bool.true_or, Bool.or_false, Bool.false_or, Bool.and_self, Bool.or_self, eq_self, if_true, Bool.false_eq_true, if_false] <;> rfl), hM⟩) (rfl) (Nat.le_of_ble_eq_true rfl) (Nat.le_of_ble_eq_true rfl) dX11_isRipe_28
  · refine lv_aload_n hx hb dX11_isRipe_15 rfl (lv_at hl 0 rfl) ?_
    refine lv_iload_n hx hb dX11_isRipe_16 rfl (lv_at hl 1 rfl) ?_
    refine cr_V (As := [.int n]) (rest := []) hx hb hml hown hu hE (c_objected l E A σ M n) kX11_objected u1006 (md_obj hM) rfl rfl (⟨hM, hI⟩) ⟨Nat.le_of_ble_eq_true rfl, Nat.le_of_ble_eq_true rfl⟩ rfl hl.1 rfl (Nat.le_of_ble_eq_true rfl) ⟨Nat.le_of_ble_eq_true rfl, Nat.le_of_ble_eq_true rfl⟩ dX11_isRipe_17 ?_
    refine lv_if_ne (tgt := 27) hx hb dX11_isRipe_20 (by decide) (fun c3 => ?_) (fun c3 => ?_)
    · refine lv_iconst (v := 0) hx hb dX11_isRipe_27 (by decide) ?_
      exact ct_rz hx hb hr hlocks hS (⟨(by simp only [m_isRipe, decide_eq_false c2, decide_eq_false c3, Bool.not_true, Bool.not_false, Bool.and_true, Bool.true_and, Bool.and_false, Bool.false_and, Bool.or_true, Bool.true_or, Bool.or_false, Bool.false_or, Bool.and_self, Bool.or_self, eq_self, if_true, Bool.false_eq_true, if_false] <;> rfl), hM⟩) (rfl) (Nat.le_of_ble_eq_true rfl) (Nat.le_of_ble_eq_true rfl) dX11_isRipe_28
    · refine lv_iconst (v := 1) hx hb dX11_isRipe_23 (by decide) ?_
      refine lv_goto (tgt := 28) hx hb dX11_isRipe_24 (by decide) ?_
      exact ct_rz hx hb hr hlocks hS (⟨(by simp only [m_isRipe, decide_eq_false c2, decide_eq_true c3, Bool.not_true, Bool.not_false, Bool.and_true, Bool.true_and, Bool.and_false, Bool.false_and, Bool.or_true, Bool.true_or, Bool.or_false, Bool.false_or, Bool.and_self, Bool.or_self, eq_self, if_true, Bool.false_eq_true, if_false] <;> rfl), hM⟩) (rfl) (Nat.le_of_ble_eq_true rfl) (Nat.le_of_ble_eq_true rfl) dX11_isRipe_28
set_option maxHeartbeats 1000000 in
set_option maxRecDepth 20000 in
theorem c_object (l : Launch) (E : EV) (A : Nat → Prop) (σ : St) (M : Nat → Nat) (n : Int32) : Ct l E yX11_object cX11_object 3 (some .int) 4 92 0 0 A [.ref (M 0), .int n] (fun H => Md E A σ M H ∧ InvM σ) (fun v H => v = some (.int (m_object σ n).1) ∧ Md E A (m_object σ n).2 M H) := by
  refine Ct.of (by decide +kernel) (Nat.le_of_ble_eq_true rfl) (fun pg ev s mi bel mth cd hx hb hr hml hown hu hlocks hnm hE hP hA hZ ls hl => ?_)
  have hl : lv_has ls 3 [(0, .ref (M 0)), (1, .int n)] := hl
  have hS : va_S A s.heap s.heap [] := va_S.rf
  obtain ⟨hM, hI⟩ := hP
  refine lv_aload_n hx hb dX11_object_0 rfl (lv_at hl 0 rfl) ?_
  refine lv_iload_n hx hb dX11_object_1 rfl (lv_at hl 1 rfl) ?_
  refine cr_V (As := [.int n]) (rest := []) hx hb hml hown hu hE (c_isNotice l E A σ M n) kX11_isNotice u957 (md_obj hM) rfl rfl (⟨hM, hI⟩) ⟨Nat.le_of_ble_eq_true rfl, Nat.le_of_ble_eq_true rfl⟩ rfl hl.1 rfl (Nat.le_of_ble_eq_true rfl) ⟨Nat.le_of_ble_eq_true rfl, Nat.le_of_ble_eq_true rfl⟩ dX11_object_2 ?_
  refine onB (fun b1 => ?_) (fun b1 => ?_)
  · refine lv_if_eq (tgt := 26) hx hb dX11_object_5 (by decide) (fun c2 => absurd c2 (by decide)) (fun _ => ?_)
    refine lv_aload_n hx hb dX11_object_8 rfl (lv_at hl 0 rfl) ?_
    refine rd_get (k := 20) (v := .ref (M 20)) hx hb hown hu hE ok12 (md_obj hM) (by decide) u777 (fun _ h => h) rfl dX11_object_9 ?_
    refine lv_iload_n hx hb dX11_object_12 rfl (lv_at hl 1 rfl) ?_
    refine mr_ld (t := 20) hx hb hE hM rfl (by decide) (okN_in hI (isN_ok hI b1)) dX11_object_13 ?_
    refine lv_if_ne (tgt := 26) hx hb dX11_object_14 (by decide) (fun c3 => ?_) (fun c3 => ?_)
    · refine lv_iconst (v := (-1)) hx hb dX11_object_26 (by decide) ?_
      exact ct_ri hx hb hr hlocks hS (by (have hB : (m_objBad σ n || m_objLate σ n) = true := (by simp only [m_objBad, m_objLate, b1, decide_eq_false c3, Bool.not_true, Bool.not_false, Bool.and_true, Bool.true_and, Bool.and_false, Bool.false_and, Bool.or_true, Bool.true_or, Bool.or_false, Bool.false_or, Bool.and_self, Bool.or_self, eq_self, if_true, Bool.false_eq_true, if_false])); unfold m_object; rw [hB]; exact ⟨rfl, hM⟩) (Nat.le_of_ble_eq_true rfl) (Nat.le_of_ble_eq_true rfl) dX11_object_27
    · refine lv_aload_n hx hb dX11_object_17 rfl (lv_at hl 0 rfl) ?_
      refine rd_get (k := 26) (v := .int (σ 26 0)) hx hb hown hu hE ok12 (md_obj hM) (by decide) u783 (fun _ h => h) rfl dX11_object_18 ?_
      refine lv_bipush (v := 60) hx hb dX11_object_21 (by decide) ?_
      refine lv_icmp_ne (tgt := 28) hx hb dX11_object_23 (by decide) (fun c4 => ?_) (fun c4 => ?_)
      · refine lv_aload_n hx hb dX11_object_28 rfl (lv_at hl 0 rfl) ?_
        refine lv_iload_n hx hb dX11_object_29 rfl (lv_at hl 1 rfl) ?_
        refine ct_V (As := [.int n]) (rest := []) hx hb hml hown hu hE hZ hS (fun _ h => h) (fun q h => hA q (Nat.le_trans hS.1 h)) (c_ripeOf l E A σ M n) kX11_ripeOf u973 (md_obj hM) rfl rfl (⟨hM, hI, isN_ok hI b1⟩) ⟨Nat.le_of_ble_eq_true rfl, Nat.le_of_ble_eq_true rfl⟩ rfl hl.1 rfl (Nat.le_of_ble_eq_true rfl) ⟨Nat.le_of_ble_eq_true rfl, Nat.le_of_ble_eq_true rfl⟩ dX11_object_30 (fun v5 H1 locs1 hR hS hz hk => ?_)
        obtain ⟨rfl, hM⟩ := hR
        refine lv_istore_n (lv' := [(2, .int (m_ripe σ n)), (0, .ref (M 0)), (1, .int n)]) hx hb dX11_object_33 rfl hl (by decide) rfl (fun ls hl => ?_)
        refine lv_iload_n hx hb dX11_object_34 rfl (lv_at hl 0 rfl) ?_
        refine lv_iconst (v := (-1)) hx hb dX11_object_35 (by decide) ?_
        refine lv_icmp_eq (tgt := 49) hx hb dX11_object_36 (by decide) (fun c6 => ?_) (fun c6 => ?_)
        · refine lv_aload_n hx hb dX11_object_49 rfl (lv_at hl 1 rfl) ?_
          refine rd_get (k := 24) (v := .ref (M 24)) hx hb hown hu hE ok12 (md_obj hM) (by decide) u781 (fun _ h => h) rfl dX11_object_50 ?_
          refine lv_aload_n hx hb dX11_object_53 rfl (lv_at hl 1 rfl) ?_
          refine rd_get (k := 26) (v := .int (σ 26 0)) hx hb hown hu hE ok12 (md_obj hM) (by decide) u783 (fun _ h => h) rfl dX11_object_54 ?_
          refine lv_iload_n hx hb dX11_object_57 rfl (lv_at hl 2 rfl) ?_
          refine mr_st (t := 24) hx hb hE hS hM rfl (by decide) (cnt_in (N := 60) hI.1.2.2.2.2.2.1 rfl c4) dX11_object_58 (fun H1 locs1 hM hS => ?_)
          refine lv_aload_n hx hb dX11_object_59 rfl (lv_at hl 1 rfl) ?_
          refine lv_dup hx hb dX11_object_60 rfl ?_
          refine rd_get (k := 26) (v := .int (σ 26 0)) hx hb hown hu hE ok12 (md_obj hM) (by decide) u783 (fun _ h => h) rfl dX11_object_61 ?_
          refine lv_iconst (v := 1) hx hb dX11_object_64 (by decide) ?_
          refine lv_iadd hx hb dX11_object_65 ?_
          refine mr_put (k := 26) (x := (σ 26 0) + 1) hx hb hown hu hE hS hM rfl (by decide) u783 rfl rfl rfl dX11_object_66 (fun H1 locs1 hM hS => ?_)
          refine lv_aload_n hx hb dX11_object_69 rfl (lv_at hl 1 rfl) ?_
          refine rd_get (k := 26) (v := .int ((σ 26 0) + 1)) hx hb hown hu hE ok12 (md_obj hM) (by decide) u783 (fun _ h => h) rfl dX11_object_70 ?_
          refine lv_iconst (v := 1) hx hb dX11_object_73 (by decide) ?_
          refine lv_isub hx hb dX11_object_74 ?_
          exact ct_ri hx hb hr hlocks hS (by (have hB : (m_objBad σ n || m_objLate σ n) = false := (by simp only [m_objBad, m_objLate, b1, decide_eq_true c3, decide_eq_false c4, decide_eq_true c6, Bool.not_true, Bool.not_false, Bool.and_true, Bool.true_and, Bool.and_false, Bool.false_and, Bool.or_true, Bool.true_or, Bool.or_false, Bool.false_or, Bool.and_self, Bool.or_self, eq_self, if_true, Bool.false_eq_true, if_false])); unfold m_object; rw [hB]; exact ⟨rfl, hM⟩) (Nat.le_of_ble_eq_true rfl) (Nat.le_of_ble_eq_true rfl) dX11_object_75
        · refine lv_aload_n hx hb dX11_object_39 rfl (lv_at hl 1 rfl) ?_
          refine rd_get (k := 0) (v := .int (σ 0 0)) hx hb hown hu hE ok12 (md_obj hM) (by decide) u757 (fun _ h => h) rfl dX11_object_40 ?_
          refine lv_iload_n hx hb dX11_object_43 rfl (lv_at hl 0 rfl) ?_
          refine lv_icmp_lt (tgt := 49) hx hb dX11_object_44 (by decide) (fun c7 => ?_) (fun c7 => ?_)
          · refine lv_aload_n hx hb dX11_object_49 rfl (lv_at hl 1 rfl) ?_
            refine rd_get (k := 24) (v := .ref (M 24)) hx hb hown hu hE ok12 (md_obj hM) (by decide) u781 (fun _ h => h) rfl dX11_object_50 ?_
            refine lv_aload_n hx hb dX11_object_53 rfl (lv_at hl 1 rfl) ?_
            refine rd_get (k := 26) (v := .int (σ 26 0)) hx hb hown hu hE ok12 (md_obj hM) (by decide) u783 (fun _ h => h) rfl dX11_object_54 ?_
            refine lv_iload_n hx hb dX11_object_57 rfl (lv_at hl 2 rfl) ?_
            refine mr_st (t := 24) hx hb hE hS hM rfl (by decide) (cnt_in (N := 60) hI.1.2.2.2.2.2.1 rfl c4) dX11_object_58 (fun H1 locs1 hM hS => ?_)
            refine lv_aload_n hx hb dX11_object_59 rfl (lv_at hl 1 rfl) ?_
            refine lv_dup hx hb dX11_object_60 rfl ?_
            refine rd_get (k := 26) (v := .int (σ 26 0)) hx hb hown hu hE ok12 (md_obj hM) (by decide) u783 (fun _ h => h) rfl dX11_object_61 ?_
            refine lv_iconst (v := 1) hx hb dX11_object_64 (by decide) ?_
            refine lv_iadd hx hb dX11_object_65 ?_
            refine mr_put (k := 26) (x := (σ 26 0) + 1) hx hb hown hu hE hS hM rfl (by decide) u783 rfl rfl rfl dX11_object_66 (fun H1 locs1 hM hS => ?_)
            refine lv_aload_n hx hb dX11_object_69 rfl (lv_at hl 1 rfl) ?_
            refine rd_get (k := 26) (v := .int ((σ 26 0) + 1)) hx hb hown hu hE ok12 (md_obj hM) (by decide) u783 (fun _ h => h) rfl dX11_object_70 ?_
            refine lv_iconst (v := 1) hx hb dX11_object_73 (by decide) ?_
            refine lv_isub hx hb dX11_object_74 ?_
            exact ct_ri hx hb hr hlocks hS (by (have hB : (m_objBad σ n || m_objLate σ n) = false := (by simp only [m_objBad, m_objLate, b1, decide_eq_true c3, decide_eq_false c4, decide_eq_false c6, decide_eq_true c7, Bool.not_true, Bool.not_false, Bool.and_true, Bool.true_and, Bool.and_false, Bool.false_and, Bool.or_true, Bool.true_or, Bool.or_false, Bool.false_or, Bool.and_self, Bool.or_self, eq_self, if_true, Bool.false_eq_true, if_false])); unfold m_object; rw [hB]; exact ⟨rfl, hM⟩) (Nat.le_of_ble_eq_true rfl) (Nat.le_of_ble_eq_true rfl) dX11_object_75
          · refine lv_iconst (v := (-1)) hx hb dX11_object_47 (by decide) ?_
            exact ct_ri hx hb hr hlocks hS (by (have hB : (m_objBad σ n || m_objLate σ n) = true := (by simp only [m_objBad, m_objLate, b1, decide_eq_true c3, decide_eq_false c4, decide_eq_false c6, decide_eq_false c7, Bool.not_true, Bool.not_false, Bool.and_true, Bool.true_and, Bool.and_false, Bool.false_and, Bool.or_true, Bool.true_or, Bool.or_false, Bool.false_or, Bool.and_self, Bool.or_self, eq_self, if_true, Bool.false_eq_true, if_false])); unfold m_object; rw [hB]; exact ⟨rfl, hM⟩) (Nat.le_of_ble_eq_true rfl) (Nat.le_of_ble_eq_true rfl) dX11_object_48
      · refine lv_iconst (v := (-1)) hx hb dX11_object_26 (by decide) ?_
        exact ct_ri hx hb hr hlocks hS (by (have hB : (m_objBad σ n || m_objLate σ n) = true := (by simp only [m_objBad, m_objLate, b1, decide_eq_true c3, decide_eq_true c4, Bool.not_true, Bool.not_false, Bool.and_true, Bool.true_and, Bool.and_false, Bool.false_and, Bool.or_true, Bool.true_or, Bool.or_false, Bool.false_or, Bool.and_self, Bool.or_self, eq_self, if_true, Bool.false_eq_true, if_false])); unfold m_object; rw [hB]; exact ⟨rfl, hM⟩) (Nat.le_of_ble_eq_true rfl) (Nat.le_of_ble_eq_true rfl) dX11_object_27
  · refine lv_if_eq (tgt := 26) hx hb dX11_object_5 (by decide) (fun _ => ?_) (fun c8 => absurd (by decide) c8)
    refine lv_iconst (v := (-1)) hx hb dX11_object_26 (by decide) ?_
    exact ct_ri hx hb hr hlocks hS (by (have hB : (m_objBad σ n || m_objLate σ n) = true := (by simp only [m_objBad, m_objLate, b1, Bool.not_true, Bool.not_false, Bool.and_true, Bool.true_and, Bool.and_false, Bool.false_and, Bool.or_true, Bool.true_or, Bool.or_false, Bool.false_or, Bool.and_self, Bool.or_self, eq_self, if_true, Bool.false_eq_true, if_false])); unfold m_object; rw [hB]; exact ⟨rfl, hM⟩) (Nat.le_of_ble_eq_true rfl) (Nat.le_of_ble_eq_true rfl) dX11_object_27
set_option maxHeartbeats 1000000 in
set_option maxRecDepth 20000 in
theorem c_bars (l : Launch) (E : EV) (A : Nat → Prop) (σ : St) (M : Nat → Nat) (n dy hr_ hl_ rg : Int32) : Ct l E yX11_bars cX11_bars 11 (some .int) 4 91 0 0 A [.ref (M 0), .int n, .int dy, .int hr_, .int hl_, .int rg] (fun H => Md E A σ M H ∧ InvM σ ∧ okN σ n ∧ okD dy ∧ okR σ rg) (fun v H => v = some (.int (m_bars σ n dy hr_ hl_ rg)) ∧ Md E A σ M H) := by
  refine Ct.of (by decide +kernel) (Nat.le_of_ble_eq_true rfl) (fun pg ev s mi bel mth cd hx hb hr hml hown hu hlocks hnm hE hP hA hZ ls hl => ?_)
  have hl : lv_has ls 11 [(0, .ref (M 0)), (1, .int n), (2, .int dy), (3, .int hr_), (4, .int hl_), (5, .int rg)] := hl
  have hS : va_S A s.heap s.heap [] := va_S.rf
  obtain ⟨hM, hI, hX, hD, hRg⟩ := hP
  have hn := cnt_le (N := 60) hI.1.2.2.2.2.1
  have hc := cnt_nI hI.1.2.2.2.2.1
  refine lv_aload_n hx hb dX11_bars_0 rfl (lv_at hl 0 rfl) ?_
  refine rd_get (k := 20) (v := .ref (M 20)) hx hb hown hu hE ok12 (md_obj hM) (by decide) u777 (fun _ h => h) rfl dX11_bars_1 ?_
  refine lv_iload_n hx hb dX11_bars_4 rfl (lv_at hl 1 rfl) ?_
  refine mr_ld (t := 20) hx hb hE hM rfl (by decide) (okN_in hI hX) dX11_bars_5 ?_
  refine lv_if_eq (tgt := 11) hx hb dX11_bars_6 (by decide) (fun c1 => ?_) (fun c1 => ?_)
  · refine lv_aload_n hx hb dX11_bars_11 rfl (lv_at hl 0 rfl) ?_
    refine lv_iload_n hx hb dX11_bars_12 rfl (lv_at hl 2 rfl) ?_
    refine cr_V (As := [.int dy]) (rest := []) hx hb hml hown hu hE (c_isFree l E A σ M dy) kX11_isFree u892 (md_obj hM) rfl rfl (⟨hM, hI, hD⟩) ⟨Nat.le_of_ble_eq_true rfl, Nat.le_of_ble_eq_true rfl⟩ rfl hl.1 rfl (Nat.le_of_ble_eq_true rfl) ⟨Nat.le_of_ble_eq_true rfl, Nat.le_of_ble_eq_true rfl⟩ dX11_bars_13 ?_
    refine onB (fun b2 => ?_) (fun b2 => ?_)
    · refine lv_if_ne (tgt := 21) hx hb dX11_bars_16 (by decide) (fun _ => ?_) (fun c3 => absurd c3 (by decide))
      refine lv_aload_n hx hb dX11_bars_21 rfl (lv_at hl 0 rfl) ?_
      refine lv_iload_n hx hb dX11_bars_22 rfl (lv_at hl 1 rfl) ?_
      refine lv_iload_n hx hb dX11_bars_23 rfl (lv_at hl 2 rfl) ?_
      refine ct_V (As := [.int n, .int dy]) (rest := []) hx hb hml hown hu hE hZ hS (fun _ h => h) (fun q h => hA q (Nat.le_trans hS.1 h)) (c_isRipe l E A σ M n dy) kX11_isRipe u1002 (md_obj hM) rfl rfl (⟨hM, hI, ⟨hX, hD⟩⟩) ⟨Nat.le_of_ble_eq_true rfl, Nat.le_of_ble_eq_true rfl⟩ rfl hl.1 rfl (Nat.le_of_ble_eq_true rfl) ⟨Nat.le_of_ble_eq_true rfl, Nat.le_of_ble_eq_true rfl⟩ dX11_bars_24 (fun v4 H1 locs1 hR hS hz hk => ?_)
      obtain ⟨rfl, hM⟩ := hR
      refine onB (fun b5 => ?_) (fun b5 => ?_)
      · refine lv_if_ne (tgt := 32) hx hb dX11_bars_27 (by decide) (fun _ => ?_) (fun c6 => absurd c6 (by decide))
        refine lv_bipush (v := 8) hx hb dX11_bars_32 (by decide) ?_
        refine lv_istore (lv' := [(6, .int 8), (0, .ref (M 0)), (1, .int n), (2, .int dy), (3, .int hr_), (4, .int hl_), (5, .int rg)]) hx hb dX11_bars_34 hl (by decide) rfl (fun ls hl => ?_)
        refine lv_iconst (v := 0) hx hb dX11_bars_36 (by decide) ?_
        refine lv_istore (lv' := [(7, .int 0), (6, .int 8), (0, .ref (M 0)), (1, .int n), (2, .int dy), (3, .int hr_), (4, .int hl_), (5, .int rg)]) hx hb dX11_bars_37 hl (by decide) rfl (fun ls hl => ?_)
        obtain ⟨T, hT⟩ : ∃ z, z = m_baL σ n dy hr_ hl_ rg (nn σ 23) 0 8 := ⟨_, rfl⟩
        have lo : ∀ (f k : Nat) (w : Int32), (k + f = nn σ 23) → (m_baL σ n dy hr_ hl_ rg f k w = T) → ∀ (H1 : Heap) (locs1 : List Loc), Md E A σ M H1 → va_S A s.heap H1 locs1 → ∀ (ls : Array Slot), lv_has ls 11 [(0, .ref (M 0)), (1, .int n), (2, .int dy), (3, .int hr_), (4, .int hl_), (5, .int rg), (6, .int w), (7, .int (nI k))] → W pg l ev { frames := 4, cells := 0, slots := 0, locals := 91 } s mi [.ref (M 0), .int n, .int dy, .int hr_, .int hl_, .int rg].toArray bel mth cd H1 locs1 0 0 (QT bel s [.ref (M 0), .int n, .int dy, .int hr_, .int hl_, .int rg].toArray 0 0 A (fun v H => v = some (.int (m_bars σ n dy hr_ hl_ rg)) ∧ Md E A σ M H)) (F0 mi 39 ls []) := by
          intro f
          induction f with
          | zero =>
            intro k w hk hi H1 locs1 hM hS ls hl
            simp only [m_baL] at hi
            subst hi
            refine lv_iload hx hb dX11_bars_39 (lv_at hl 7 rfl) ?_
            refine lv_aload_n hx hb dX11_bars_41 rfl (lv_at hl 0 rfl) ?_
            refine rd_get (k := 23) (v := .int (σ 23 0)) hx hb hown hu hE ok12 (md_obj hM) (by decide) u780 (fun _ h => h) rfl dX11_bars_42 ?_
            refine lv_icmp_ge (tgt := 194) hx hb dX11_bars_45 (by decide) (fun c7 => ?_) (fun c7 => absurd (by rw [hc]; exact nI_le (by omega) (by omega)) c7)
            refine lv_aload_n hx hb dX11_bars_194 rfl (lv_at hl 0 rfl) ?_
            refine rd_get (k := 27) (v := .ref (M 27)) hx hb hown hu hE ok12 (md_obj hM) (by decide) u784 (fun _ h => h) rfl dX11_bars_195 ?_
            refine lv_iload hx hb dX11_bars_198 (lv_at hl 5 rfl) ?_
            refine mr_ld (t := 27) hx hb hE hM rfl (by decide) (okR_in hI hRg) dX11_bars_200 ?_
            refine lv_aload_n hx hb dX11_bars_201 rfl (lv_at hl 0 rfl) ?_
            refine rd_get (k := 8) (v := .ref (M 8)) hx hb hown hu hE ok12 (md_obj hM) (by decide) u765 (fun _ h => h) rfl dX11_bars_202 ?_
            refine lv_aload_n hx hb dX11_bars_205 rfl (lv_at hl 0 rfl) ?_
            refine rd_get (k := 17) (v := .ref (M 17)) hx hb hown hu hE ok12 (md_obj hM) (by decide) u774 (fun _ h => h) rfl dX11_bars_206 ?_
            refine lv_iload_n hx hb dX11_bars_209 rfl (lv_at hl 1 rfl) ?_
            refine mr_ld (t := 17) hx hb hE hM rfl (by decide) (okN_in hI hX) dX11_bars_210 ?_
            refine mr_ld (t := 8) hx hb hE hM rfl (by decide) (okP_in hI (one_ok hI hX)) dX11_bars_211 ?_
            refine lv_iand hx hb dX11_bars_212 ?_
            refine lv_if_eq (tgt := 238) hx hb dX11_bars_213 (by decide) (fun c8 => ?_) (fun c8 => ?_)
            · refine lv_iload hx hb dX11_bars_238 (lv_at hl 6 rfl) ?_
              refine lv_bipush (v := 7) hx hb dX11_bars_240 (by decide) ?_
              refine va_mmin hx hb (by rw [hml]; exact hl.1.symm) hown (hu _ u900) (hu _ u251) (hu _ u11) (hu _ u252) (Nat.le_of_ble_eq_true rfl) (Nat.le_of_ble_eq_true rfl) (Nat.le_of_ble_eq_true rfl) (Nat.le_of_ble_eq_true rfl) dX11_bars_242 ?_
              refine lv_istore (lv' := [(6, .int (m_min w 7)), (0, .ref (M 0)), (1, .int n), (2, .int dy), (3, .int hr_), (4, .int hl_), (5, .int rg), (7, .int (nI k))]) hx hb dX11_bars_245 hl (by decide) rfl (fun ls hl => ?_)
              refine lv_iload hx hb dX11_bars_247 (lv_at hl 0 rfl) ?_
              refine lv_bipush (v := 8) hx hb dX11_bars_249 (by decide) ?_
              refine lv_icmp_ne (tgt := 258) hx hb dX11_bars_251 (by decide) (fun c9 => ?_) (fun c9 => ?_)
              · refine lv_iload hx hb dX11_bars_258 (lv_at hl 0 rfl) ?_
                exact ct_ri hx hb hr hlocks hS (⟨(by simp only [m_bars, m_worst, m_dumb, ← hT, decide_eq_true c1, b2, b5, decide_eq_true c8, decide_eq_false c9, Bool.not_true, Bool.not_false, Bool.and_true, Bool.true_and, Bool.and_false, Bool.false_and, Bool.or_true, Bool.true_or, Bool.or_false, Bool.false_or, Bool.and_self, Bool.or_self, eq_self, if_true, Bool.false_eq_true, if_false]), hM⟩) (Nat.le_of_ble_eq_true rfl) (Nat.le_of_ble_eq_true rfl) dX11_bars_260
              · refine lv_iconst (v := 0) hx hb dX11_bars_254 (by decide) ?_
                refine lv_goto (tgt := 260) hx hb dX11_bars_255 (by decide) ?_
                exact ct_ri hx hb hr hlocks hS (⟨(by simp only [m_bars, m_worst, m_dumb, ← hT, decide_eq_true c1, b2, b5, decide_eq_true c8, decide_eq_true c9, Bool.not_true, Bool.not_false, Bool.and_true, Bool.true_and, Bool.and_false, Bool.false_and, Bool.or_true, Bool.true_or, Bool.or_false, Bool.false_or, Bool.and_self, Bool.or_self, eq_self, if_true, Bool.false_eq_true, if_false]), hM⟩) (Nat.le_of_ble_eq_true rfl) (Nat.le_of_ble_eq_true rfl) dX11_bars_260
            · refine lv_aload_n hx hb dX11_bars_216 rfl (lv_at hl 0 rfl) ?_
              refine rd_get (k := 27) (v := .ref (M 27)) hx hb hown hu hE ok12 (md_obj hM) (by decide) u784 (fun _ h => h) rfl dX11_bars_217 ?_
              refine lv_iload hx hb dX11_bars_220 (lv_at hl 5 rfl) ?_
              refine mr_ld (t := 27) hx hb hE hM rfl (by decide) (okR_in hI hRg) dX11_bars_222 ?_
              refine lv_aload_n hx hb dX11_bars_223 rfl (lv_at hl 0 rfl) ?_
              refine rd_get (k := 8) (v := .ref (M 8)) hx hb hown hu hE ok12 (md_obj hM) (by decide) u765 (fun _ h => h) rfl dX11_bars_224 ?_
              refine lv_aload_n hx hb dX11_bars_227 rfl (lv_at hl 0 rfl) ?_
              refine rd_get (k := 18) (v := .ref (M 18)) hx hb hown hu hE ok12 (md_obj hM) (by decide) u775 (fun _ h => h) rfl dX11_bars_228 ?_
              refine lv_iload_n hx hb dX11_bars_231 rfl (lv_at hl 1 rfl) ?_
              refine mr_ld (t := 18) hx hb hE hM rfl (by decide) (okN_in hI hX) dX11_bars_232 ?_
              refine mr_ld (t := 8) hx hb hE hM rfl (by decide) (okP_in hI (oth_ok hI hX)) dX11_bars_233 ?_
              refine lv_iand hx hb dX11_bars_234 ?_
              refine lv_if_ne (tgt := 247) hx hb dX11_bars_235 (by decide) (fun c10 => ?_) (fun c10 => ?_)
              · refine lv_iload hx hb dX11_bars_247 (lv_at hl 6 rfl) ?_
                refine lv_bipush (v := 8) hx hb dX11_bars_249 (by decide) ?_
                refine lv_icmp_ne (tgt := 258) hx hb dX11_bars_251 (by decide) (fun c11 => ?_) (fun c11 => ?_)
                · refine lv_iload hx hb dX11_bars_258 (lv_at hl 6 rfl) ?_
                  exact ct_ri hx hb hr hlocks hS (⟨(by simp only [m_bars, m_worst, m_dumb, ← hT, decide_eq_true c1, b2, b5, decide_eq_false c8, decide_eq_false c10, decide_eq_false c11, Bool.not_true, Bool.not_false, Bool.and_true, Bool.true_and, Bool.and_false, Bool.false_and, Bool.or_true, Bool.true_or, Bool.or_false, Bool.false_or, Bool.and_self, Bool.or_self, eq_self, if_true, Bool.false_eq_true, if_false]), hM⟩) (Nat.le_of_ble_eq_true rfl) (Nat.le_of_ble_eq_true rfl) dX11_bars_260
                · refine lv_iconst (v := 0) hx hb dX11_bars_254 (by decide) ?_
                  refine lv_goto (tgt := 260) hx hb dX11_bars_255 (by decide) ?_
                  exact ct_ri hx hb hr hlocks hS (⟨(by simp only [m_bars, m_worst, m_dumb, ← hT, decide_eq_true c1, b2, b5, decide_eq_false c8, decide_eq_false c10, decide_eq_true c11, Bool.not_true, Bool.not_false, Bool.and_true, Bool.true_and, Bool.and_false, Bool.false_and, Bool.or_true, Bool.true_or, Bool.or_false, Bool.false_or, Bool.and_self, Bool.or_self, eq_self, if_true, Bool.false_eq_true, if_false]), hM⟩) (Nat.le_of_ble_eq_true rfl) (Nat.le_of_ble_eq_true rfl) dX11_bars_260
              · refine lv_iload hx hb dX11_bars_238 (lv_at hl 6 rfl) ?_
                refine lv_bipush (v := 7) hx hb dX11_bars_240 (by decide) ?_
                refine va_mmin hx hb (by rw [hml]; exact hl.1.symm) hown (hu _ u900) (hu _ u251) (hu _ u11) (hu _ u252) (Nat.le_of_ble_eq_true rfl) (Nat.le_of_ble_eq_true rfl) (Nat.le_of_ble_eq_true rfl) (Nat.le_of_ble_eq_true rfl) dX11_bars_242 ?_
                refine lv_istore (lv' := [(6, .int (m_min w 7)), (0, .ref (M 0)), (1, .int n), (2, .int dy), (3, .int hr_), (4, .int hl_), (5, .int rg), (7, .int (nI k))]) hx hb dX11_bars_245 hl (by decide) rfl (fun ls hl => ?_)
                refine lv_iload hx hb dX11_bars_247 (lv_at hl 0 rfl) ?_
                refine lv_bipush (v := 8) hx hb dX11_bars_249 (by decide) ?_
                refine lv_icmp_ne (tgt := 258) hx hb dX11_bars_251 (by decide) (fun c12 => ?_) (fun c12 => ?_)
                · refine lv_iload hx hb dX11_bars_258 (lv_at hl 0 rfl) ?_
                  exact ct_ri hx hb hr hlocks hS (⟨(by simp only [m_bars, m_worst, m_dumb, ← hT, decide_eq_true c1, b2, b5, decide_eq_false c8, decide_eq_true c10, decide_eq_false c12, Bool.not_true, Bool.not_false, Bool.and_true, Bool.true_and, Bool.and_false, Bool.false_and, Bool.or_true, Bool.true_or, Bool.or_false, Bool.false_or, Bool.and_self, Bool.or_self, eq_self, if_true, Bool.false_eq_true, if_false]), hM⟩) (Nat.le_of_ble_eq_true rfl) (Nat.le_of_ble_eq_true rfl) dX11_bars_260
                · refine lv_iconst (v := 0) hx hb dX11_bars_254 (by decide) ?_
                  refine lv_goto (tgt := 260) hx hb dX11_bars_255 (by decide) ?_
                  exact ct_ri hx hb hr hlocks hS (⟨(by simp only [m_bars, m_worst, m_dumb, ← hT, decide_eq_true c1, b2, b5, decide_eq_false c8, decide_eq_true c10, decide_eq_true c12, Bool.not_true, Bool.not_false, Bool.and_true, Bool.true_and, Bool.and_false, Bool.false_and, Bool.or_true, Bool.true_or, Bool.or_false, Bool.false_or, Bool.and_self, Bool.or_self, eq_self, if_true, Bool.false_eq_true, if_false]), hM⟩) (Nat.le_of_ble_eq_true rfl) (Nat.le_of_ble_eq_true rfl) dX11_bars_260
          | succ f ih =>
            intro k w hk hi H1 locs1 hM hS ls hl
            refine lv_iload hx hb dX11_bars_39 (lv_at hl 7 rfl) ?_
            refine lv_aload_n hx hb dX11_bars_41 rfl (lv_at hl 0 rfl) ?_
            refine rd_get (k := 23) (v := .int (σ 23 0)) hx hb hown hu hE ok12 (md_obj hM) (by decide) u780 (fun _ h => h) rfl dX11_bars_42 ?_
            refine lv_icmp_ge (tgt := 194) hx hb dX11_bars_45 (by decide) (fun c13 => absurd c13 (by rw [hc]; exact nI_ge (by omega) (by omega))) (fun c13 => ?_)
            have j188 : ∀ (w3 : Int32), (m_baL σ n dy hr_ hl_ rg f (k + 1) w3 = T) → ∀ (H1 : Heap) (locs1 : List Loc), Md E A σ M H1 → va_S A s.heap H1 locs1 → ∀ (ls : Array Slot), lv_has ls 11 [(0, .ref (M 0)), (1, .int n), (2, .int dy), (3, .int hr_), (4, .int hl_), (5, .int rg), (6, .int w3), (7, .int (nI k))] → W pg l ev { frames := 4, cells := 0, slots := 0, locals := 91 } s mi [.ref (M 0), .int n, .int dy, .int hr_, .int hl_, .int rg].toArray bel mth cd H1 locs1 0 0 (QT bel s [.ref (M 0), .int n, .int dy, .int hr_, .int hl_, .int rg].toArray 0 0 A (fun v H => v = some (.int (m_bars σ n dy hr_ hl_ rg)) ∧ Md E A σ M H)) (F0 mi 188 ls []) := by
              intro w3 h3 H1 locs1 hM hS ls hl
              refine lv_iinc (v := nI (k + 1)) (lv' := [(7, .int (nI (k + 1))), (0, .ref (M 0)), (1, .int n), (2, .int dy), (3, .int hr_), (4, .int hl_), (5, .int rg), (6, .int w3)]) hx hb dX11_bars_188 hl (k := 7) rfl (nI_1 k) (by decide) rfl (fun ls hl => ?_)
              refine lv_goto (tgt := 39) hx hb dX11_bars_191 (by decide) ?_
              exact ih (k + 1) _ (by omega) h3 _ _ hM hS _ (lv_sub hl [1, 2, 3, 4, 5, 6, 7, 0] rfl)
            refine lv_iload hx hb dX11_bars_48 (lv_at hl 7 rfl) ?_
            refine lv_iload_n hx hb dX11_bars_50 rfl (lv_at hl 1 rfl) ?_
            refine lv_icmp_eq (tgt := 188) hx hb dX11_bars_51 (by decide) (fun c14 => ?_) (fun c14 => ?_)
            · exact j188 _ (by simp only [m_baL, decide_eq_true c1, b2, b5, decide_eq_true c14, Bool.not_true, Bool.not_false, Bool.and_true, Bool.true_and, Bool.and_false, Bool.false_and, Bool.or_true, Bool.true_or, Bool.or_false, Bool.false_or, Bool.and_self, Bool.or_self, eq_self, if_true, Bool.false_eq_true, if_false] at hi; exact hi) _ _ hM hS _ (lv_sub hl [0, 1, 2, 3, 4, 5, 6, 7] rfl)
            · refine lv_aload_n hx hb dX11_bars_54 rfl (lv_at hl 0 rfl) ?_
              refine rd_get (k := 21) (v := .ref (M 21)) hx hb hown hu hE ok12 (md_obj hM) (by decide) u778 (fun _ h => h) rfl dX11_bars_55 ?_
              refine lv_iload hx hb dX11_bars_58 (lv_at hl 7 rfl) ?_
              refine mr_ld (t := 21) hx hb hE hM rfl (by decide) (vp_in_nI (N := 60) (by omega) (by decide)) dX11_bars_60 ?_
              refine lv_iload_n hx hb dX11_bars_61 rfl (lv_at hl 2 rfl) ?_
              refine lv_icmp_eq (tgt := 68) hx hb dX11_bars_62 (by decide) (fun c15 => ?_) (fun c15 => ?_)
              · refine lv_aload_n hx hb dX11_bars_68 rfl (lv_at hl 0 rfl) ?_
                refine rd_get (k := 22) (v := .ref (M 22)) hx hb hown hu hE ok12 (md_obj hM) (by decide) u779 (fun _ h => h) rfl dX11_bars_69 ?_
                refine lv_iload hx hb dX11_bars_72 (lv_at hl 7 rfl) ?_
                refine mr_ld (t := 22) hx hb hE hM rfl (by decide) (vp_in_nI (N := 60) (by omega) (by decide)) dX11_bars_74 ?_
                refine lv_bipush (v := 100) hx hb dX11_bars_75 (by decide) ?_
                refine lv_idiv hx hb dX11_bars_77 (by decide) ?_
                refine lv_istore (lv' := [(8, .int ((gA σ 22 (nI k)) / 100)), (0, .ref (M 0)), (1, .int n), (2, .int dy), (3, .int hr_), (4, .int hl_), (5, .int rg), (6, .int w), (7, .int (nI k))]) hx hb dX11_bars_78 hl (by decide) rfl (fun ls hl => ?_)
                refine lv_aload_n hx hb dX11_bars_80 rfl (lv_at hl 1 rfl) ?_
                refine rd_get (k := 22) (v := .ref (M 22)) hx hb hown hu hE ok12 (md_obj hM) (by decide) u779 (fun _ h => h) rfl dX11_bars_81 ?_
                refine lv_iload hx hb dX11_bars_84 (lv_at hl 8 rfl) ?_
                refine mr_ld (t := 22) hx hb hE hM rfl (by decide) (vp_in_nI (N := 60) (by omega) (by decide)) dX11_bars_86 ?_
                refine lv_bipush (v := 10) hx hb dX11_bars_87 (by decide) ?_
                refine lv_idiv hx hb dX11_bars_89 (by decide) ?_
                refine lv_bipush (v := 10) hx hb dX11_bars_90 (by decide) ?_
                refine lv_irem hx hb dX11_bars_92 (by decide) ?_
                refine lv_istore (lv' := [(9, .int (rm ((gA σ 22 (nI k)) / 10) 10)), (8, .int ((gA σ 22 (nI k)) / 100)), (0, .ref (M 0)), (1, .int n), (2, .int dy), (3, .int hr_), (4, .int hl_), (5, .int rg), (6, .int w), (7, .int (nI k))]) hx hb dX11_bars_93 hl (by decide) rfl (fun ls hl => ?_)
                refine lv_aload_n hx hb dX11_bars_95 rfl (lv_at hl 2 rfl) ?_
                refine rd_get (k := 22) (v := .ref (M 22)) hx hb hown hu hE ok12 (md_obj hM) (by decide) u779 (fun _ h => h) rfl dX11_bars_96 ?_
                refine lv_iload hx hb dX11_bars_99 (lv_at hl 9 rfl) ?_
                refine mr_ld (t := 22) hx hb hE hM rfl (by decide) (vp_in_nI (N := 60) (by omega) (by decide)) dX11_bars_101 ?_
                refine lv_bipush (v := 10) hx hb dX11_bars_102 (by decide) ?_
                refine lv_irem hx hb dX11_bars_104 (by decide) ?_
                refine lv_istore (lv' := [(10, .int (rm (gA σ 22 (nI k)) 10)), (9, .int (rm ((gA σ 22 (nI k)) / 10) 10)), (8, .int ((gA σ 22 (nI k)) / 100)), (0, .ref (M 0)), (1, .int n), (2, .int dy), (3, .int hr_), (4, .int hl_), (5, .int rg), (6, .int w), (7, .int (nI k))]) hx hb dX11_bars_105 hl (by decide) rfl (fun ls hl => ?_)
                have j128 : ∀ (w1 : Int32), (w1 = m_bA σ hr_ hl_ (nI k) w) → ∀ (H1 : Heap) (locs1 : List Loc), Md E A σ M H1 → va_S A s.heap H1 locs1 → ∀ (ls : Array Slot), lv_has ls 11 [(0, .ref (M 0)), (1, .int n), (2, .int dy), (3, .int hr_), (4, .int hl_), (5, .int rg), (6, .int w1), (7, .int (nI k)), (8, .int (gA σ 22 (nI k) / 100)), (9, .int (rm (gA σ 22 (nI k) / 10) 10)), (10, .int (rm (gA σ 22 (nI k)) 10))] → W pg l ev { frames := 4, cells := 0, slots := 0, locals := 91 } s mi [.ref (M 0), .int n, .int dy, .int hr_, .int hl_, .int rg].toArray bel mth cd H1 locs1 0 0 (QT bel s [.ref (M 0), .int n, .int dy, .int hr_, .int hl_, .int rg].toArray 0 0 A (fun v H => v = some (.int (m_bars σ n dy hr_ hl_ rg)) ∧ Md E A σ M H)) (F0 mi 128 ls []) := by
                  intro w1 hw1 H1 locs1 hM hS ls hl
                  have j149 : ∀ (w2 : Int32), (w2 = m_bB σ hr_ rg (nI k) (m_bA σ hr_ hl_ (nI k) w)) → ∀ (H1 : Heap) (locs1 : List Loc), Md E A σ M H1 → va_S A s.heap H1 locs1 → ∀ (ls : Array Slot), lv_has ls 11 [(0, .ref (M 0)), (1, .int n), (2, .int dy), (3, .int hr_), (4, .int hl_), (5, .int rg), (6, .int w2), (7, .int (nI k)), (8, .int (gA σ 22 (nI k) / 100)), (9, .int (rm (gA σ 22 (nI k) / 10) 10)), (10, .int (rm (gA σ 22 (nI k)) 10))] → W pg l ev { frames := 4, cells := 0, slots := 0, locals := 91 } s mi [.ref (M 0), .int n, .int dy, .int hr_, .int hl_, .int rg].toArray bel mth cd H1 locs1 0 0 (QT bel s [.ref (M 0), .int n, .int dy, .int hr_, .int hl_, .int rg].toArray 0 0 A (fun v H => v = some (.int (m_bars σ n dy hr_ hl_ rg)) ∧ Md E A σ M H)) (F0 mi 149 ls []) := by
                    intro w2 hw2 H1 locs1 hM hS ls hl
                    refine lv_iload hx hb dX11_bars_149 (lv_at hl 8 rfl) ?_
                    refine lv_iload_n hx hb dX11_bars_151 rfl (lv_at hl 3 rfl) ?_
                    refine lv_iconst (v := 1) hx hb dX11_bars_152 (by decide) ?_
                    refine lv_isub hx hb dX11_bars_153 ?_
                    refine lv_icmp_eq (tgt := 165) hx hb dX11_bars_154 (by decide) (fun c16 => ?_) (fun c16 => ?_)
                    · refine lv_iload hx hb dX11_bars_165 (lv_at hl 10 rfl) ?_
                      refine lv_iload hx hb dX11_bars_167 (lv_at hl 5 rfl) ?_
                      refine lv_icmp_ne (tgt := 188) hx hb dX11_bars_169 (by decide) (fun c17 => ?_) (fun c17 => ?_)
                      · exact j188 _ (by simp only [m_baL, m_b1, decide_eq_true c1, b2, b5, decide_eq_false c14, decide_eq_true c15, decide_eq_true c16, decide_eq_false c17, Bool.not_true, Bool.not_false, Bool.and_true, Bool.true_and, Bool.and_false, Bool.false_and, Bool.or_true, Bool.true_or, Bool.or_false, Bool.false_or, Bool.and_self, Bool.or_self, eq_self, if_true, Bool.false_eq_true, if_false] at hi; rw [← hw2] at hi; simp only [m_bC, decide_eq_true c1, b2, b5, decide_eq_false c14, decide_eq_true c15, decide_eq_true c16, decide_eq_false c17, Bool.not_true, Bool.not_false, Bool.and_true, Bool.true_and, Bool.and_false, Bool.false_and, Bool.or_true, Bool.true_or, Bool.or_false, Bool.false_or, Bool.and_self, Bool.or_self, eq_self, if_true, Bool.false_eq_true, if_false] at hi; exact hi) _ _ hM hS _ (lv_sub hl [0, 1, 2, 3, 4, 5, 6, 7] rfl)
                      · refine lv_iload hx hb dX11_bars_172 (lv_at hl 9 rfl) ?_
                        refine lv_iload hx hb dX11_bars_174 (lv_at hl 4 rfl) ?_
                        refine lv_icmp_eq (tgt := 188) hx hb dX11_bars_176 (by decide) (fun c18 => ?_) (fun c18 => ?_)
                        · exact j188 _ (by simp only [m_baL, m_b1, decide_eq_true c1, b2, b5, decide_eq_false c14, decide_eq_true c15, decide_eq_true c16, decide_eq_true c17, decide_eq_true c18, Bool.not_true, Bool.not_false, Bool.and_true, Bool.true_and, Bool.and_false, Bool.false_and, Bool.or_true, Bool.true_or, Bool.or_false, Bool.false_or, Bool.and_self, Bool.or_self, eq_self, if_true, Bool.false_eq_true, if_false] at hi; rw [← hw2] at hi; simp only [m_bC, decide_eq_true c1, b2, b5, decide_eq_false c14, decide_eq_true c15, decide_eq_true c16, decide_eq_true c17, decide_eq_true c18, Bool.not_true, Bool.not_false, Bool.and_true, Bool.true_and, Bool.and_false, Bool.false_and, Bool.or_true, Bool.true_or, Bool.or_false, Bool.false_or, Bool.and_self, Bool.or_self, eq_self, if_true, Bool.false_eq_true, if_false] at hi; exact hi) _ _ hM hS _ (lv_sub hl [0, 1, 2, 3, 4, 5, 6, 7] rfl)
                        · refine lv_iload hx hb dX11_bars_179 (lv_at hl 6 rfl) ?_
                          refine lv_bipush (v := 6) hx hb dX11_bars_181 (by decide) ?_
                          refine va_mmin hx hb (by rw [hml]; exact hl.1.symm) hown (hu _ u900) (hu _ u251) (hu _ u11) (hu _ u252) (Nat.le_of_ble_eq_true rfl) (Nat.le_of_ble_eq_true rfl) (Nat.le_of_ble_eq_true rfl) (Nat.le_of_ble_eq_true rfl) dX11_bars_183 ?_
                          refine lv_istore (lv' := [(6, .int (m_min w2 6)), (0, .ref (M 0)), (1, .int n), (2, .int dy), (3, .int hr_), (4, .int hl_), (5, .int rg), (7, .int (nI k)), (8, .int (gA σ 22 (nI k) / 100)), (9, .int (rm (gA σ 22 (nI k) / 10) 10)), (10, .int (rm (gA σ 22 (nI k)) 10))]) hx hb dX11_bars_186 hl (by decide) rfl (fun ls hl => ?_)
                          exact j188 _ (by simp only [m_baL, m_b1, decide_eq_true c1, b2, b5, decide_eq_false c14, decide_eq_true c15, decide_eq_true c16, decide_eq_true c17, decide_eq_false c18, Bool.not_true, Bool.not_false, Bool.and_true, Bool.true_and, Bool.and_false, Bool.false_and, Bool.or_true, Bool.true_or, Bool.or_false, Bool.false_or, Bool.and_self, Bool.or_self, eq_self, if_true, Bool.false_eq_true, if_false] at hi; rw [← hw2] at hi; simp only [m_bC, decide_eq_true c1, b2, b5, decide_eq_false c14, decide_eq_true c15, decide_eq_true c16, decide_eq_true c17, decide_eq_false c18, Bool.not_true, Bool.not_false, Bool.and_true, Bool.true_and, Bool.and_false, Bool.false_and, Bool.or_true, Bool.true_or, Bool.or_false, Bool.false_or, Bool.and_self, Bool.or_self, eq_self, if_true, Bool.false_eq_true, if_false] at hi; exact hi) _ _ hM hS _ (lv_sub hl [1, 2, 3, 4, 5, 6, 0, 7] rfl)
                    · refine lv_iload hx hb dX11_bars_157 (lv_at hl 8 rfl) ?_
                      refine lv_iload_n hx hb dX11_bars_159 rfl (lv_at hl 3 rfl) ?_
                      refine lv_iconst (v := 1) hx hb dX11_bars_160 (by decide) ?_
                      refine lv_iadd hx hb dX11_bars_161 ?_
                      refine lv_icmp_ne (tgt := 188) hx hb dX11_bars_162 (by decide) (fun c19 => ?_) (fun c19 => ?_)
                      · exact j188 _ (by simp only [m_baL, m_b1, decide_eq_true c1, b2, b5, decide_eq_false c14, decide_eq_true c15, decide_eq_false c16, decide_eq_false c19, Bool.not_true, Bool.not_false, Bool.and_true, Bool.true_and, Bool.and_false, Bool.false_and, Bool.or_true, Bool.true_or, Bool.or_false, Bool.false_or, Bool.and_self, Bool.or_self, eq_self, if_true, Bool.false_eq_true, if_false] at hi; rw [← hw2] at hi; simp only [m_bC, decide_eq_true c1, b2, b5, decide_eq_false c14, decide_eq_true c15, decide_eq_false c16, decide_eq_false c19, Bool.not_true, Bool.not_false, Bool.and_true, Bool.true_and, Bool.and_false, Bool.false_and, Bool.or_true, Bool.true_or, Bool.or_false, Bool.false_or, Bool.and_self, Bool.or_self, eq_self, if_true, Bool.false_eq_true, if_false] at hi; exact hi) _ _ hM hS _ (lv_sub hl [0, 1, 2, 3, 4, 5, 6, 7] rfl)
                      · refine lv_iload hx hb dX11_bars_165 (lv_at hl 10 rfl) ?_
                        refine lv_iload hx hb dX11_bars_167 (lv_at hl 5 rfl) ?_
                        refine lv_icmp_ne (tgt := 188) hx hb dX11_bars_169 (by decide) (fun c20 => ?_) (fun c20 => ?_)
                        · exact j188 _ (by simp only [m_baL, m_b1, decide_eq_true c1, b2, b5, decide_eq_false c14, decide_eq_true c15, decide_eq_false c16, decide_eq_true c19, decide_eq_false c20, Bool.not_true, Bool.not_false, Bool.and_true, Bool.true_and, Bool.and_false, Bool.false_and, Bool.or_true, Bool.true_or, Bool.or_false, Bool.false_or, Bool.and_self, Bool.or_self, eq_self, if_true, Bool.false_eq_true, if_false] at hi; rw [← hw2] at hi; simp only [m_bC, decide_eq_true c1, b2, b5, decide_eq_false c14, decide_eq_true c15, decide_eq_false c16, decide_eq_true c19, decide_eq_false c20, Bool.not_true, Bool.not_false, Bool.and_true, Bool.true_and, Bool.and_false, Bool.false_and, Bool.or_true, Bool.true_or, Bool.or_false, Bool.false_or, Bool.and_self, Bool.or_self, eq_self, if_true, Bool.false_eq_true, if_false] at hi; exact hi) _ _ hM hS _ (lv_sub hl [0, 1, 2, 3, 4, 5, 6, 7] rfl)
                        · refine lv_iload hx hb dX11_bars_172 (lv_at hl 9 rfl) ?_
                          refine lv_iload hx hb dX11_bars_174 (lv_at hl 4 rfl) ?_
                          refine lv_icmp_eq (tgt := 188) hx hb dX11_bars_176 (by decide) (fun c21 => ?_) (fun c21 => ?_)
                          · exact j188 _ (by simp only [m_baL, m_b1, decide_eq_true c1, b2, b5, decide_eq_false c14, decide_eq_true c15, decide_eq_false c16, decide_eq_true c19, decide_eq_true c20, decide_eq_true c21, Bool.not_true, Bool.not_false, Bool.and_true, Bool.true_and, Bool.and_false, Bool.false_and, Bool.or_true, Bool.true_or, Bool.or_false, Bool.false_or, Bool.and_self, Bool.or_self, eq_self, if_true, Bool.false_eq_true, if_false] at hi; rw [← hw2] at hi; simp only [m_bC, decide_eq_true c1, b2, b5, decide_eq_false c14, decide_eq_true c15, decide_eq_false c16, decide_eq_true c19, decide_eq_true c20, decide_eq_true c21, Bool.not_true, Bool.not_false, Bool.and_true, Bool.true_and, Bool.and_false, Bool.false_and, Bool.or_true, Bool.true_or, Bool.or_false, Bool.false_or, Bool.and_self, Bool.or_self, eq_self, if_true, Bool.false_eq_true, if_false] at hi; exact hi) _ _ hM hS _ (lv_sub hl [0, 1, 2, 3, 4, 5, 6, 7] rfl)
                          · refine lv_iload hx hb dX11_bars_179 (lv_at hl 6 rfl) ?_
                            refine lv_bipush (v := 6) hx hb dX11_bars_181 (by decide) ?_
                            refine va_mmin hx hb (by rw [hml]; exact hl.1.symm) hown (hu _ u900) (hu _ u251) (hu _ u11) (hu _ u252) (Nat.le_of_ble_eq_true rfl) (Nat.le_of_ble_eq_true rfl) (Nat.le_of_ble_eq_true rfl) (Nat.le_of_ble_eq_true rfl) dX11_bars_183 ?_
                            refine lv_istore (lv' := [(6, .int (m_min w2 6)), (0, .ref (M 0)), (1, .int n), (2, .int dy), (3, .int hr_), (4, .int hl_), (5, .int rg), (7, .int (nI k)), (8, .int (gA σ 22 (nI k) / 100)), (9, .int (rm (gA σ 22 (nI k) / 10) 10)), (10, .int (rm (gA σ 22 (nI k)) 10))]) hx hb dX11_bars_186 hl (by decide) rfl (fun ls hl => ?_)
                            exact j188 _ (by simp only [m_baL, m_b1, decide_eq_true c1, b2, b5, decide_eq_false c14, decide_eq_true c15, decide_eq_false c16, decide_eq_true c19, decide_eq_true c20, decide_eq_false c21, Bool.not_true, Bool.not_false, Bool.and_true, Bool.true_and, Bool.and_false, Bool.false_and, Bool.or_true, Bool.true_or, Bool.or_false, Bool.false_or, Bool.and_self, Bool.or_self, eq_self, if_true, Bool.false_eq_true, if_false] at hi; rw [← hw2] at hi; simp only [m_bC, decide_eq_true c1, b2, b5, decide_eq_false c14, decide_eq_true c15, decide_eq_false c16, decide_eq_true c19, decide_eq_true c20, decide_eq_false c21, Bool.not_true, Bool.not_false, Bool.and_true, Bool.true_and, Bool.and_false, Bool.false_and, Bool.or_true, Bool.true_or, Bool.or_false, Bool.false_or, Bool.and_self, Bool.or_self, eq_self, if_true, Bool.false_eq_true, if_false] at hi; exact hi) _ _ hM hS _ (lv_sub hl [1, 2, 3, 4, 5, 6, 0, 7] rfl)
                  refine lv_iload hx hb dX11_bars_128 (lv_at hl 8 rfl) ?_
                  refine lv_iload_n hx hb dX11_bars_130 rfl (lv_at hl 3 rfl) ?_
                  refine lv_icmp_ne (tgt := 149) hx hb dX11_bars_131 (by decide) (fun c22 => ?_) (fun c22 => ?_)
                  · exact j149 _ (by rw [← hw1]; simp only [m_bB, decide_eq_true c1, b2, b5, decide_eq_false c14, decide_eq_true c15, decide_eq_false c22, Bool.not_true, Bool.not_false, Bool.and_true, Bool.true_and, Bool.and_false, Bool.false_and, Bool.or_true, Bool.true_or, Bool.or_false, Bool.false_or, Bool.and_self, Bool.or_self, eq_self, if_true, Bool.false_eq_true, if_false]) _ _ hM hS _ (lv_sub hl [0, 1, 2, 3, 4, 5, 6, 7, 8, 9, 10] rfl)
                  · refine lv_iload hx hb dX11_bars_134 (lv_at hl 10 rfl) ?_
                    refine lv_iload hx hb dX11_bars_136 (lv_at hl 5 rfl) ?_
                    refine lv_icmp_ne (tgt := 149) hx hb dX11_bars_138 (by decide) (fun c23 => ?_) (fun c23 => ?_)
                    · exact j149 _ (by rw [← hw1]; simp only [m_bB, decide_eq_true c1, b2, b5, decide_eq_false c14, decide_eq_true c15, decide_eq_true c22, decide_eq_false c23, Bool.not_true, Bool.not_false, Bool.and_true, Bool.true_and, Bool.and_false, Bool.false_and, Bool.or_true, Bool.true_or, Bool.or_false, Bool.false_or, Bool.and_self, Bool.or_self, eq_self, if_true, Bool.false_eq_true, if_false]) _ _ hM hS _ (lv_sub hl [0, 1, 2, 3, 4, 5, 6, 7, 8, 9, 10] rfl)
                    · refine lv_iload hx hb dX11_bars_141 (lv_at hl 6 rfl) ?_
                      refine lv_iconst (v := 5) hx hb dX11_bars_143 (by decide) ?_
                      refine va_mmin hx hb (by rw [hml]; exact hl.1.symm) hown (hu _ u900) (hu _ u251) (hu _ u11) (hu _ u252) (Nat.le_of_ble_eq_true rfl) (Nat.le_of_ble_eq_true rfl) (Nat.le_of_ble_eq_true rfl) (Nat.le_of_ble_eq_true rfl) dX11_bars_144 ?_
                      refine lv_istore (lv' := [(6, .int (m_min w1 5)), (0, .ref (M 0)), (1, .int n), (2, .int dy), (3, .int hr_), (4, .int hl_), (5, .int rg), (7, .int (nI k)), (8, .int (gA σ 22 (nI k) / 100)), (9, .int (rm (gA σ 22 (nI k) / 10) 10)), (10, .int (rm (gA σ 22 (nI k)) 10))]) hx hb dX11_bars_147 hl (by decide) rfl (fun ls hl => ?_)
                      exact j149 _ (by rw [← hw1]; simp only [m_bB, decide_eq_true c1, b2, b5, decide_eq_false c14, decide_eq_true c15, decide_eq_true c22, decide_eq_true c23, Bool.not_true, Bool.not_false, Bool.and_true, Bool.true_and, Bool.and_false, Bool.false_and, Bool.or_true, Bool.true_or, Bool.or_false, Bool.false_or, Bool.and_self, Bool.or_self, eq_self, if_true, Bool.false_eq_true, if_false]) _ _ hM hS _ (lv_sub hl [1, 2, 3, 4, 5, 6, 0, 7, 8, 9, 10] rfl)
                refine lv_iload hx hb dX11_bars_107 (lv_at hl 2 rfl) ?_
                refine lv_iload_n hx hb dX11_bars_109 rfl (lv_at hl 6 rfl) ?_
                refine lv_icmp_ne (tgt := 128) hx hb dX11_bars_110 (by decide) (fun c24 => ?_) (fun c24 => ?_)
                · exact j128 _ (by simp only [m_bA, decide_eq_true c1, b2, b5, decide_eq_false c14, decide_eq_true c15, decide_eq_false c24, Bool.not_true, Bool.not_false, Bool.and_true, Bool.true_and, Bool.and_false, Bool.false_and, Bool.or_true, Bool.true_or, Bool.or_false, Bool.false_or, Bool.and_self, Bool.or_self, eq_self, if_true, Bool.false_eq_true, if_false]) _ _ hM hS _ (lv_sub hl [3, 4, 5, 6, 7, 8, 9, 10, 2, 1, 0] rfl)
                · refine lv_iload hx hb dX11_bars_113 (lv_at hl 1 rfl) ?_
                  refine lv_iload hx hb dX11_bars_115 (lv_at hl 7 rfl) ?_
                  refine lv_icmp_ne (tgt := 128) hx hb dX11_bars_117 (by decide) (fun c25 => ?_) (fun c25 => ?_)
                  · exact j128 _ (by simp only [m_bA, decide_eq_true c1, b2, b5, decide_eq_false c14, decide_eq_true c15, decide_eq_true c24, decide_eq_false c25, Bool.not_true, Bool.not_false, Bool.and_true, Bool.true_and, Bool.and_false, Bool.false_and, Bool.or_true, Bool.true_or, Bool.or_false, Bool.false_or, Bool.and_self, Bool.or_self, eq_self, if_true, Bool.false_eq_true, if_false]) _ _ hM hS _ (lv_sub hl [3, 4, 5, 6, 7, 8, 9, 10, 2, 1, 0] rfl)
                  · refine lv_iload hx hb dX11_bars_120 (lv_at hl 9 rfl) ?_
                    refine lv_iconst (v := 4) hx hb dX11_bars_122 (by decide) ?_
                    refine va_mmin hx hb (by rw [hml]; exact hl.1.symm) hown (hu _ u900) (hu _ u251) (hu _ u11) (hu _ u252) (Nat.le_of_ble_eq_true rfl) (Nat.le_of_ble_eq_true rfl) (Nat.le_of_ble_eq_true rfl) (Nat.le_of_ble_eq_true rfl) dX11_bars_123 ?_
                    refine lv_istore (lv' := [(6, .int (m_min w 4)), (10, .int (rm (gA σ 22 (nI k)) 10)), (9, .int (rm ((gA σ 22 (nI k)) / 10) 10)), (8, .int ((gA σ 22 (nI k)) / 100)), (0, .ref (M 0)), (1, .int n), (2, .int dy), (3, .int hr_), (4, .int hl_), (5, .int rg), (7, .int (nI k))]) hx hb dX11_bars_126 hl (by decide) rfl (fun ls hl => ?_)
                    exact j128 _ (by simp only [m_bA, decide_eq_true c1, b2, b5, decide_eq_false c14, decide_eq_true c15, decide_eq_true c24, decide_eq_true c25, Bool.not_true, Bool.not_false, Bool.and_true, Bool.true_and, Bool.and_false, Bool.false_and, Bool.or_true, Bool.true_or, Bool.or_false, Bool.false_or, Bool.and_self, Bool.or_self, eq_self, if_true, Bool.false_eq_true, if_false]) _ _ hM hS _ (lv_sub hl [4, 5, 6, 7, 8, 9, 0, 10, 3, 2, 1] rfl)
              · refine lv_goto (tgt := 188) hx hb dX11_bars_65 (by decide) ?_
                exact j188 _ (by simp only [m_baL, decide_eq_true c1, b2, b5, decide_eq_false c14, decide_eq_false c15, Bool.not_true, Bool.not_false, Bool.and_true, Bool.true_and, Bool.and_false, Bool.false_and, Bool.or_true, Bool.true_or, Bool.or_false, Bool.false_or, Bool.and_self, Bool.or_self, eq_self, if_true, Bool.false_eq_true, if_false] at hi; exact hi) _ _ hM hS _ (lv_sub hl [0, 1, 2, 3, 4, 5, 6, 7] rfl)
        exact lo (nn σ 23) 0 8 (by omega) hT.symm _ _ hM hS _ (lv_sub hl [2, 3, 4, 5, 6, 7, 1, 0] rfl)
      · refine lv_if_ne (tgt := 32) hx hb dX11_bars_27 (by decide) (fun c26 => absurd c26 (by decide)) (fun _ => ?_)
        refine lv_iconst (v := 3) hx hb dX11_bars_30 (by decide) ?_
        exact ct_ri hx hb hr hlocks hS (⟨by simp only [m_bars, decide_eq_true c1, b2, b5, Bool.not_true, Bool.not_false, Bool.and_true, Bool.true_and, Bool.and_false, Bool.false_and, Bool.or_true, Bool.true_or, Bool.or_false, Bool.false_or, Bool.and_self, Bool.or_self, eq_self, if_true, Bool.false_eq_true, if_false], hM⟩) (Nat.le_of_ble_eq_true rfl) (Nat.le_of_ble_eq_true rfl) dX11_bars_31
    · refine lv_if_ne (tgt := 21) hx hb dX11_bars_16 (by decide) (fun c27 => absurd c27 (by decide)) (fun _ => ?_)
      refine lv_iconst (v := 2) hx hb dX11_bars_19 (by decide) ?_
      exact ct_ri hx hb hr hlocks hS (⟨by simp only [m_bars, decide_eq_true c1, b2, Bool.not_true, Bool.not_false, Bool.and_true, Bool.true_and, Bool.and_false, Bool.false_and, Bool.or_true, Bool.true_or, Bool.or_false, Bool.false_or, Bool.and_self, Bool.or_self, eq_self, if_true, Bool.false_eq_true, if_false], hM⟩) (Nat.le_of_ble_eq_true rfl) (Nat.le_of_ble_eq_true rfl) dX11_bars_20
  · refine lv_iconst (v := 1) hx hb dX11_bars_9 (by decide) ?_
    exact ct_ri hx hb hr hlocks hS (⟨by simp only [m_bars, decide_eq_false c1, Bool.not_true, Bool.not_false, Bool.and_true, Bool.true_and, Bool.and_false, Bool.false_and, Bool.or_true, Bool.true_or, Bool.or_false, Bool.false_or, Bool.and_self, Bool.or_self, eq_self, if_true, Bool.false_eq_true, if_false], hM⟩) (Nat.le_of_ble_eq_true rfl) (Nat.le_of_ble_eq_true rfl) dX11_bars_10
set_option maxHeartbeats 1000000 in
set_option maxRecDepth 20000 in
theorem c_book (l : Launch) (E : EV) (A : Nat → Prop) (σ : St) (M : Nat → Nat) (n dy wh : Int32) : Ct l E yX11_book cX11_book 8 (some .int) 5 121 0 0 A [.ref (M 0), .int n, .int dy, .int wh] (fun H => Md E A σ M H ∧ InvM σ) (fun v H => v = some (.int (m_bookR σ n dy wh).1) ∧ Md E A (m_bookR σ n dy wh).2 M H) := by
  refine Ct.of (by decide +kernel) (Nat.le_of_ble_eq_true rfl) (fun pg ev s mi bel mth cd hx hb hr hml hown hu hlocks hnm hE hP hA hZ ls hl => ?_)
  have hl : lv_has ls 8 [(0, .ref (M 0)), (1, .int n), (2, .int dy), (3, .int wh)] := hl
  have hS : va_S A s.heap s.heap [] := va_S.rf
  obtain ⟨hM, hI⟩ := hP
  refine lv_iload_n hx hb dX11_book_0 rfl (lv_at hl 3 rfl) ?_
  refine lv_bipush (v := 100) hx hb dX11_book_1 (by decide) ?_
  refine lv_idiv hx hb dX11_book_3 (by decide) ?_
  refine lv_istore (lv' := [(4, .int (wh / 100)), (0, .ref (M 0)), (1, .int n), (2, .int dy), (3, .int wh)]) hx hb dX11_book_4 hl (by decide) rfl (fun ls hl => ?_)
  refine lv_iload_n hx hb dX11_book_6 rfl (lv_at hl 4 rfl) ?_
  refine lv_bipush (v := 10) hx hb dX11_book_7 (by decide) ?_
  refine lv_idiv hx hb dX11_book_9 (by decide) ?_
  refine lv_bipush (v := 10) hx hb dX11_book_10 (by decide) ?_
  refine lv_irem hx hb dX11_book_12 (by decide) ?_
  refine lv_istore (lv' := [(5, .int (rm (wh / 10) 10)), (4, .int (wh / 100)), (0, .ref (M 0)), (1, .int n), (2, .int dy), (3, .int wh)]) hx hb dX11_book_13 hl (by decide) rfl (fun ls hl => ?_)
  refine lv_iload_n hx hb dX11_book_15 rfl (lv_at hl 5 rfl) ?_
  refine lv_bipush (v := 10) hx hb dX11_book_16 (by decide) ?_
  refine lv_irem hx hb dX11_book_18 (by decide) ?_
  refine lv_istore (lv' := [(6, .int (rm wh 10)), (5, .int (rm (wh / 10) 10)), (4, .int (wh / 100)), (0, .ref (M 0)), (1, .int n), (2, .int dy), (3, .int wh)]) hx hb dX11_book_19 hl (by decide) rfl (fun ls hl => ?_)
  refine lv_aload_n hx hb dX11_book_21 rfl (lv_at hl 3 rfl) ?_
  refine lv_iload_n hx hb dX11_book_22 rfl (lv_at hl 4 rfl) ?_
  refine cr_V (As := [.int n]) (rest := []) hx hb hml hown hu hE (c_isNotice l E A σ M n) kX11_isNotice u957 (md_obj hM) rfl rfl (⟨hM, hI⟩) ⟨Nat.le_of_ble_eq_true rfl, Nat.le_of_ble_eq_true rfl⟩ rfl hl.1 rfl (Nat.le_of_ble_eq_true rfl) ⟨Nat.le_of_ble_eq_true rfl, Nat.le_of_ble_eq_true rfl⟩ dX11_book_23 ?_
  refine onB (fun b1 => ?_) (fun b1 => ?_)
  · refine lv_if_eq (tgt := 74) hx hb dX11_book_26 (by decide) (fun c2 => absurd c2 (by decide)) (fun _ => ?_)
    refine lv_iload_n hx hb dX11_book_29 rfl (lv_at hl 6 rfl) ?_
    refine lv_if_lt (tgt := 74) hx hb dX11_book_30 (by decide) (fun c3 => ?_) (fun c3 => ?_)
    · refine lv_iconst (v := (-1)) hx hb dX11_book_74 (by decide) ?_
      exact ct_ri hx hb hr hlocks hS (by (have hB : (m_boBad σ n dy wh) = true := (by simp only [m_boBad, b1, decide_eq_true c3, Bool.not_true, Bool.not_false, Bool.and_true, Bool.true_and, Bool.and_false, Bool.false_and, Bool.or_true, Bool.true_or, Bool.or_false, Bool.false_or, Bool.and_self, Bool.or_self, eq_self, if_true, Bool.false_eq_true, if_false])); unfold m_bookR; rw [hB, Bool.or_true]; exact ⟨by simp only [m_book, hB, Bool.not_true, Bool.not_false, Bool.and_true, Bool.true_and, Bool.and_false, Bool.false_and, Bool.or_true, Bool.true_or, Bool.or_false, Bool.false_or, Bool.and_self, Bool.or_self, eq_self, if_true, Bool.false_eq_true, if_false], hM⟩) (Nat.le_of_ble_eq_true rfl) (Nat.le_of_ble_eq_true rfl) dX11_book_75
    · refine lv_iload hx hb dX11_book_33 (lv_at hl 2 rfl) ?_
      refine lv_bipush (v := 8) hx hb dX11_book_35 (by decide) ?_
      refine lv_bipush (v := 17) hx hb dX11_book_37 (by decide) ?_
      refine cr_S (As := [.int (wh / 100), .int 8, .int 17]) (rest := []) hx hb hml hown hu hE (c_in l E (wh / 100) 8 17) kX11_in u873 (trivial) ⟨Nat.le_of_ble_eq_true rfl, Nat.le_of_ble_eq_true rfl⟩ rfl hl.1 rfl (Nat.le_of_ble_eq_true rfl) ⟨Nat.le_of_ble_eq_true rfl, Nat.le_of_ble_eq_true rfl⟩ dX11_book_39 ?_
      refine onB (fun b4 => ?_) (fun b4 => ?_)
      · refine lv_if_eq (tgt := 74) hx hb dX11_book_42 (by decide) (fun c5 => absurd c5 (by decide)) (fun _ => ?_)
        refine lv_iload hx hb dX11_book_45 (lv_at hl 1 rfl) ?_
        refine lv_iconst (v := 3) hx hb dX11_book_47 (by decide) ?_
        refine lv_icmp_gt (tgt := 74) hx hb dX11_book_48 (by decide) (fun c6 => ?_) (fun c6 => ?_)
        · refine lv_iconst (v := (-1)) hx hb dX11_book_74 (by decide) ?_
          exact ct_ri hx hb hr hlocks hS (by (have hB : (m_boBad σ n dy wh) = true := (by simp only [m_boBad, b1, decide_eq_false c3, b4, decide_eq_true c6, Bool.not_true, Bool.not_false, Bool.and_true, Bool.true_and, Bool.and_false, Bool.false_and, Bool.or_true, Bool.true_or, Bool.or_false, Bool.false_or, Bool.and_self, Bool.or_self, eq_self, if_true, Bool.false_eq_true, if_false])); unfold m_bookR; rw [hB, Bool.or_true]; exact ⟨by simp only [m_book, hB, Bool.not_true, Bool.not_false, Bool.and_true, Bool.true_and, Bool.and_false, Bool.false_and, Bool.or_true, Bool.true_or, Bool.or_false, Bool.false_or, Bool.and_self, Bool.or_self, eq_self, if_true, Bool.false_eq_true, if_false], hM⟩) (Nat.le_of_ble_eq_true rfl) (Nat.le_of_ble_eq_true rfl) dX11_book_75
        · refine lv_iload hx hb dX11_book_51 (lv_at hl 0 rfl) ?_
          refine lv_aload_n hx hb dX11_book_53 rfl (lv_at hl 3 rfl) ?_
          refine rd_get (k := 28) (v := .int (σ 28 0)) hx hb hown hu hE ok12 (md_obj hM) (by decide) u785 (fun _ h => h) rfl dX11_book_54 ?_
          refine lv_icmp_ge (tgt := 74) hx hb dX11_book_57 (by decide) (fun c7 => ?_) (fun c7 => ?_)
          · refine lv_iconst (v := (-1)) hx hb dX11_book_74 (by decide) ?_
            exact ct_ri hx hb hr hlocks hS (by (have hB : (m_boBad σ n dy wh) = true := (by simp only [m_boBad, b1, decide_eq_false c3, b4, decide_eq_false c6, decide_eq_false (Int32.not_lt.mpr c7), Bool.not_true, Bool.not_false, Bool.and_true, Bool.true_and, Bool.and_false, Bool.false_and, Bool.or_true, Bool.true_or, Bool.or_false, Bool.false_or, Bool.and_self, Bool.or_self, eq_self, if_true, Bool.false_eq_true, if_false])); unfold m_bookR; rw [hB, Bool.or_true]; exact ⟨by simp only [m_book, hB, Bool.not_true, Bool.not_false, Bool.and_true, Bool.true_and, Bool.and_false, Bool.false_and, Bool.or_true, Bool.true_or, Bool.or_false, Bool.false_or, Bool.and_self, Bool.or_self, eq_self, if_true, Bool.false_eq_true, if_false], hM⟩) (Nat.le_of_ble_eq_true rfl) (Nat.le_of_ble_eq_true rfl) dX11_book_75
          · refine lv_iload_n hx hb dX11_book_60 rfl (lv_at hl 5 rfl) ?_
            refine lv_aload_n hx hb dX11_book_61 rfl (lv_at hl 3 rfl) ?_
            refine rd_get (k := 0) (v := .int (σ 0 0)) hx hb hown hu hE ok12 (md_obj hM) (by decide) u757 (fun _ h => h) rfl dX11_book_62 ?_
            refine lv_sipush (v := 20000) hx hb dX11_book_65 (by decide) ?_
            refine cr_S (As := [.int dy, .int (σ 0 0), .int 20000]) (rest := []) hx hb hml hown hu hE (c_in l E dy (σ 0 0) 20000) kX11_in u873 (trivial) ⟨Nat.le_of_ble_eq_true rfl, Nat.le_of_ble_eq_true rfl⟩ rfl hl.1 rfl (Nat.le_of_ble_eq_true rfl) ⟨Nat.le_of_ble_eq_true rfl, Nat.le_of_ble_eq_true rfl⟩ dX11_book_68 ?_
            refine onB (fun b8 => ?_) (fun b8 => ?_)
            · refine lv_if_ne (tgt := 76) hx hb dX11_book_71 (by decide) (fun _ => ?_) (fun c9 => absurd c9 (by decide))
              refine lv_aload_n hx hb dX11_book_76 rfl (lv_at hl 3 rfl) ?_
              refine lv_iload_n hx hb dX11_book_77 rfl (lv_at hl 4 rfl) ?_
              refine lv_iload_n hx hb dX11_book_78 rfl (lv_at hl 5 rfl) ?_
              refine lv_iload hx hb dX11_book_79 (lv_at hl 2 rfl) ?_
              refine lv_iload hx hb dX11_book_81 (lv_at hl 1 rfl) ?_
              refine lv_iload hx hb dX11_book_83 (lv_at hl 0 rfl) ?_
              refine ct_V (As := [.int n, .int dy, .int (wh / 100), .int (rm (wh / 10) 10), .int (rm wh 10)]) (rest := []) hx hb hml hown hu hE hZ hS (fun _ h => h) (fun q h => hA q (Nat.le_trans hS.1 h)) (c_bars l E A σ M n dy (wh / 100) (rm (wh / 10) 10) (rm wh 10)) kX11_bars u998 (md_obj hM) rfl rfl (⟨hM, hI, ⟨isN_ok hI b1, okD_now hI b8, okR_rm c3 c7⟩⟩) ⟨Nat.le_of_ble_eq_true rfl, Nat.le_of_ble_eq_true rfl⟩ rfl hl.1 rfl (Nat.le_of_ble_eq_true rfl) ⟨Nat.le_of_ble_eq_true rfl, Nat.le_of_ble_eq_true rfl⟩ dX11_book_85 (fun v10 H1 locs1 hR hS hz hk => ?_)
              obtain ⟨rfl, hM⟩ := hR
              refine lv_istore (lv' := [(7, .int (m_bars σ n dy (wh / 100) (rm (wh / 10) 10) (rm wh 10))), (6, .int (rm wh 10)), (5, .int (rm (wh / 10) 10)), (4, .int (wh / 100)), (0, .ref (M 0)), (1, .int n), (2, .int dy), (3, .int wh)]) hx hb dX11_book_88 hl (by decide) rfl (fun ls hl => ?_)
              refine lv_iload hx hb dX11_book_90 (lv_at hl 0 rfl) ?_
              refine lv_if_le (tgt := 98) hx hb dX11_book_92 (by decide) (fun c11 => ?_) (fun c11 => ?_)
              · refine lv_aload_n hx hb dX11_book_98 rfl (lv_at hl 4 rfl) ?_
                refine rd_get (k := 21) (v := .ref (M 21)) hx hb hown hu hE ok12 (md_obj hM) (by decide) u778 (fun _ h => h) rfl dX11_book_99 ?_
                refine lv_iload_n hx hb dX11_book_102 rfl (lv_at hl 5 rfl) ?_
                refine lv_iload_n hx hb dX11_book_103 rfl (lv_at hl 6 rfl) ?_
                refine mr_st (t := 21) hx hb hE hS hM rfl (by decide) (okN_in hI (isN_ok hI b1)) dX11_book_104 (fun H1 locs1 hM hS => ?_)
                refine lv_aload_n hx hb dX11_book_105 rfl (lv_at hl 4 rfl) ?_
                refine rd_get (k := 22) (v := .ref (M 22)) hx hb hown hu hE ok12 (md_obj hM) (by decide) u779 (fun _ h => h) rfl dX11_book_106 ?_
                refine lv_iload_n hx hb dX11_book_109 rfl (lv_at hl 5 rfl) ?_
                refine lv_iload_n hx hb dX11_book_110 rfl (lv_at hl 7 rfl) ?_
                refine mr_st (t := 22) hx hb hE hS hM rfl (by decide) (okN_in hI (isN_ok hI b1)) dX11_book_111 (fun H1 locs1 hM hS => ?_)
                refine lv_iconst (v := 0) hx hb dX11_book_112 (by decide) ?_
                exact ct_ri hx hb hr hlocks hS (by (have hB : (decide (0 < m_book σ n dy wh) || m_boBad σ n dy wh) = false := (by simp only [m_book, m_boBad, b1, decide_eq_false c3, b4, decide_eq_false c6, decide_eq_true (Int32.not_le.mp c7), b8, decide_eq_false (Int32.not_lt.mpr c11), Bool.not_true, Bool.not_false, Bool.and_true, Bool.true_and, Bool.and_false, Bool.false_and, Bool.or_true, Bool.true_or, Bool.or_false, Bool.false_or, Bool.and_self, Bool.or_self, eq_self, if_true, Bool.false_eq_true, if_false])); unfold m_bookR; rw [hB]; exact ⟨rfl, hM⟩) (Nat.le_of_ble_eq_true rfl) (Nat.le_of_ble_eq_true rfl) dX11_book_113
              · refine lv_iload hx hb dX11_book_95 (lv_at hl 0 rfl) ?_
                exact ct_ri hx hb hr hlocks hS (by (have hB : (decide (0 < m_book σ n dy wh) || m_boBad σ n dy wh) = true := (by simp only [m_book, m_boBad, b1, decide_eq_false c3, b4, decide_eq_false c6, decide_eq_true (Int32.not_le.mp c7), b8, decide_eq_true (Int32.not_le.mp c11), Bool.not_true, Bool.not_false, Bool.and_true, Bool.true_and, Bool.and_false, Bool.false_and, Bool.or_true, Bool.true_or, Bool.or_false, Bool.false_or, Bool.and_self, Bool.or_self, eq_self, if_true, Bool.false_eq_true, if_false])); unfold m_bookR; rw [hB]; exact ⟨by simp only [m_book, m_boBad, b1, decide_eq_false c3, b4, decide_eq_false c6, decide_eq_true (Int32.not_le.mp c7), b8, decide_eq_true (Int32.not_le.mp c11), Bool.not_true, Bool.not_false, Bool.and_true, Bool.true_and, Bool.and_false, Bool.false_and, Bool.or_true, Bool.true_or, Bool.or_false, Bool.false_or, Bool.and_self, Bool.or_self, eq_self, if_true, Bool.false_eq_true, if_false], hM⟩) (Nat.le_of_ble_eq_true rfl) (Nat.le_of_ble_eq_true rfl) dX11_book_97
            · refine lv_if_ne (tgt := 76) hx hb dX11_book_71 (by decide) (fun c12 => absurd c12 (by decide)) (fun _ => ?_)
              refine lv_iconst (v := (-1)) hx hb dX11_book_74 (by decide) ?_
              exact ct_ri hx hb hr hlocks hS (by (have hB : (m_boBad σ n dy wh) = true := (by simp only [m_boBad, b1, decide_eq_false c3, b4, decide_eq_false c6, decide_eq_true (Int32.not_le.mp c7), b8, Bool.not_true, Bool.not_false, Bool.and_true, Bool.true_and, Bool.and_false, Bool.false_and, Bool.or_true, Bool.true_or, Bool.or_false, Bool.false_or, Bool.and_self, Bool.or_self, eq_self, if_true, Bool.false_eq_true, if_false])); unfold m_bookR; rw [hB, Bool.or_true]; exact ⟨by simp only [m_book, hB, Bool.not_true, Bool.not_false, Bool.and_true, Bool.true_and, Bool.and_false, Bool.false_and, Bool.or_true, Bool.true_or, Bool.or_false, Bool.false_or, Bool.and_self, Bool.or_self, eq_self, if_true, Bool.false_eq_true, if_false], hM⟩) (Nat.le_of_ble_eq_true rfl) (Nat.le_of_ble_eq_true rfl) dX11_book_75
      · refine lv_if_eq (tgt := 74) hx hb dX11_book_42 (by decide) (fun _ => ?_) (fun c13 => absurd (by decide) c13)
        refine lv_iconst (v := (-1)) hx hb dX11_book_74 (by decide) ?_
        exact ct_ri hx hb hr hlocks hS (by (have hB : (m_boBad σ n dy wh) = true := (by simp only [m_boBad, b1, decide_eq_false c3, b4, Bool.not_true, Bool.not_false, Bool.and_true, Bool.true_and, Bool.and_false, Bool.false_and, Bool.or_true, Bool.true_or, Bool.or_false, Bool.false_or, Bool.and_self, Bool.or_self, eq_self, if_true, Bool.false_eq_true, if_false])); unfold m_bookR; rw [hB, Bool.or_true]; exact ⟨by simp only [m_book, hB, Bool.not_true, Bool.not_false, Bool.and_true, Bool.true_and, Bool.and_false, Bool.false_and, Bool.or_true, Bool.true_or, Bool.or_false, Bool.false_or, Bool.and_self, Bool.or_self, eq_self, if_true, Bool.false_eq_true, if_false], hM⟩) (Nat.le_of_ble_eq_true rfl) (Nat.le_of_ble_eq_true rfl) dX11_book_75
  · refine lv_if_eq (tgt := 74) hx hb dX11_book_26 (by decide) (fun _ => ?_) (fun c14 => absurd (by decide) c14)
    refine lv_iconst (v := (-1)) hx hb dX11_book_74 (by decide) ?_
    exact ct_ri hx hb hr hlocks hS (by (have hB : (m_boBad σ n dy wh) = true := (by simp only [m_boBad, b1, Bool.not_true, Bool.not_false, Bool.and_true, Bool.true_and, Bool.and_false, Bool.false_and, Bool.or_true, Bool.true_or, Bool.or_false, Bool.false_or, Bool.and_self, Bool.or_self, eq_self, if_true, Bool.false_eq_true, if_false])); unfold m_bookR; rw [hB, Bool.or_true]; exact ⟨by simp only [m_book, hB, Bool.not_true, Bool.not_false, Bool.and_true, Bool.true_and, Bool.and_false, Bool.false_and, Bool.or_true, Bool.true_or, Bool.or_false, Bool.false_or, Bool.and_self, Bool.or_self, eq_self, if_true, Bool.false_eq_true, if_false], hM⟩) (Nat.le_of_ble_eq_true rfl) (Nat.le_of_ble_eq_true rfl) dX11_book_75
