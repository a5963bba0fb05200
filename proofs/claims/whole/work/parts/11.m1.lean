set_option maxHeartbeats 1000000 in
set_option maxRecDepth 20000 in
theorem c_in (l : Launch) (E : EV) (v lo hi : Int32) : Cr l E yX11_in cX11_in 3 (some .boolean) 0 0 [.int v, .int lo, .int hi] (fun H => True) (some (.int (bI (m_in v lo hi)))) := by
  refine Cr.of (by decide +kernel) (Nat.le_of_ble_eq_true rfl) (fun pg ev s mi bel mth cd hx hb hr hml hown hu hlocks hE hP ls hl => ?_)
  have hl : lv_has ls 3 [(0, .int v), (1, .int lo), (2, .int hi)] := hl
  refine lv_iload_n hx hb dX11_in_0 rfl (lv_at hl 0 rfl) ?_
  refine lv_iload_n hx hb dX11_in_1 rfl (lv_at hl 1 rfl) ?_
  refine lv_icmp_lt (tgt := 14) hx hb dX11_in_2 (by decide) (fun c1 => ?_) (fun c1 => ?_)
  · refine lv_iconst (v := 0) hx hb dX11_in_14 (by decide) ?_
    exact cr_rz hx hb hr hlocks (by simp only [m_in, decide_eq_true c1, Bool.not_true, Bool.not_false, Bool.and_true, Bool.true_and, Bool.and_false, Bool.false_and, Bool.or_true, Bool.true_or, Bool.or_false, Bool.false_or, Bool.and_self, Bool.or_self, eq_self, if_true, Bool.false_eq_true, if_false] <;> rfl) (rfl) dX11_in_15
  · refine lv_iload_n hx hb dX11_in_5 rfl (lv_at hl 0 rfl) ?_
    refine lv_iload_n hx hb dX11_in_6 rfl (lv_at hl 2 rfl) ?_
    refine lv_icmp_gt (tgt := 14) hx hb dX11_in_7 (by decide) (fun c2 => ?_) (fun c2 => ?_)
    · refine lv_iconst (v := 0) hx hb dX11_in_14 (by decide) ?_
      exact cr_rz hx hb hr hlocks (by simp only [m_in, decide_eq_false c1, decide_eq_true c2, Bool.not_true, Bool.not_false, Bool.and_true, Bool.true_and, Bool.and_false, Bool.false_and, Bool.or_true, Bool.true_or, Bool.or_false, Bool.false_or, Bool.and_self, Bool.or_self, eq_self, if_true, Bool.false_eq_true, if_false] <;> rfl) (rfl) dX11_in_15
    · refine lv_iconst (v := 1) hx hb dX11_in_10 (by decide) ?_
      refine lv_goto (tgt := 15) hx hb dX11_in_11 (by decide) ?_
      exact cr_rz hx hb hr hlocks (by simp only [m_in, decide_eq_false c1, decide_eq_false c2, Bool.not_true, Bool.not_false, Bool.and_true, Bool.true_and, Bool.and_false, Bool.false_and, Bool.or_true, Bool.true_or, Bool.or_false, Bool.false_or, Bool.and_self, Bool.or_self, eq_self, if_true, Bool.false_eq_true, if_false] <;> rfl) (rfl) dX11_in_15
set_option maxHeartbeats 1000000 in
set_option maxRecDepth 20000 in
theorem c_isPerson (l : Launch) (E : EV) (A : Nat → Prop) (σ : St) (M : Nat → Nat) (p : Int32) : Cr l E yX11_isPerson cX11_isPerson 2 (some .boolean) 1 22 [.ref (M 0), .int p] (fun H => Md E A σ M H ∧ InvM σ) (some (.int (bI (m_isP σ p)))) := by
  refine Cr.of (by decide +kernel) (Nat.le_of_ble_eq_true rfl) (fun pg ev s mi bel mth cd hx hb hr hml hown hu hlocks hE hP ls hl => ?_)
  have hl : lv_has ls 2 [(0, .ref (M 0)), (1, .int p)] := hl
  obtain ⟨hM, hI⟩ := hP
  refine lv_iload_n hx hb dX11_isPerson_0 rfl (lv_at hl 1 rfl) ?_
  refine lv_iconst (v := 0) hx hb dX11_isPerson_1 (by decide) ?_
  refine lv_aload_n hx hb dX11_isPerson_2 rfl (lv_at hl 0 rfl) ?_
  refine rd_get (k := 11) (v := .int (σ 11 0)) hx hb hown hu hE ok12 (md_obj hM) (by decide) u768 (fun _ h => h) rfl dX11_isPerson_3 ?_
  refine lv_iconst (v := 1) hx hb dX11_isPerson_6 (by decide) ?_
  refine lv_isub hx hb dX11_isPerson_7 ?_
  refine cr_S (As := [.int p, .int 0, .int ((σ 11 0) - 1)]) (rest := []) hx hb hml hown hu hE (c_in l E p 0 ((σ 11 0) - 1)) kX11_in u873 (trivial) ⟨Nat.le_of_ble_eq_true rfl, Nat.le_of_ble_eq_true rfl⟩ rfl hl.1 rfl (Nat.le_of_ble_eq_true rfl) ⟨Nat.le_of_ble_eq_true rfl, Nat.le_of_ble_eq_true rfl⟩ dX11_isPerson_8 ?_
  refine onB (fun b1 => ?_) (fun b1 => ?_)
  · exact cr_rz hx hb hr hlocks (by simp only [m_isP, b1, Bool.not_true, Bool.not_false, Bool.and_true, Bool.true_and, Bool.and_false, Bool.false_and, Bool.or_true, Bool.true_or, Bool.or_false, Bool.false_or, Bool.and_self, Bool.or_self, eq_self, if_true, Bool.false_eq_true, if_false] <;> rfl) (rfl) dX11_isPerson_11
  · exact cr_rz hx hb hr hlocks (by simp only [m_isP, b1, Bool.not_true, Bool.not_false, Bool.and_true, Bool.true_and, Bool.and_false, Bool.false_and, Bool.or_true, Bool.true_or, Bool.or_false, Bool.false_or, Bool.and_self, Bool.or_self, eq_self, if_true, Bool.false_eq_true, if_false] <;> rfl) (rfl) dX11_isPerson_11
set_option maxHeartbeats 1000000 in
set_option maxRecDepth 20000 in
theorem c_isNotice (l : Launch) (E : EV) (A : Nat → Prop) (σ : St) (M : Nat → Nat) (n : Int32) : Cr l E yX11_isNotice cX11_isNotice 2 (some .boolean) 1 22 [.ref (M 0), .int n] (fun H => Md E A σ M H ∧ InvM σ) (some (.int (bI (m_isN σ n)))) := by
  refine Cr.of (by decide +kernel) (Nat.le_of_ble_eq_true rfl) (fun pg ev s mi bel mth cd hx hb hr hml hown hu hlocks hE hP ls hl => ?_)
  have hl : lv_has ls 2 [(0, .ref (M 0)), (1, .int n)] := hl
  obtain ⟨hM, hI⟩ := hP
  refine lv_iload_n hx hb dX11_isNotice_0 rfl (lv_at hl 1 rfl) ?_
  refine lv_iconst (v := 0) hx hb dX11_isNotice_1 (by decide) ?_
  refine lv_aload_n hx hb dX11_isNotice_2 rfl (lv_at hl 0 rfl) ?_
  refine rd_get (k := 23) (v := .int (σ 23 0)) hx hb hown hu hE ok12 (md_obj hM) (by decide) u780 (fun _ h => h) rfl dX11_isNotice_3 ?_
  refine lv_iconst (v := 1) hx hb dX11_isNotice_6 (by decide) ?_
  refine lv_isub hx hb dX11_isNotice_7 ?_
  refine cr_S (As := [.int n, .int 0, .int ((σ 23 0) - 1)]) (rest := []) hx hb hml hown hu hE (c_in l E n 0 ((σ 23 0) - 1)) kX11_in u873 (trivial) ⟨Nat.le_of_ble_eq_true rfl, Nat.le_of_ble_eq_true rfl⟩ rfl hl.1 rfl (Nat.le_of_ble_eq_true rfl) ⟨Nat.le_of_ble_eq_true rfl, Nat.le_of_ble_eq_true rfl⟩ dX11_isNotice_8 ?_
  refine onB (fun b1 => ?_) (fun b1 => ?_)
  · exact cr_rz hx hb hr hlocks (by simp only [m_isN, b1, Bool.not_true, Bool.not_false, Bool.and_true, Bool.true_and, Bool.and_false, Bool.false_and, Bool.or_true, Bool.true_or, Bool.or_false, Bool.false_or, Bool.and_self, Bool.or_self, eq_self, if_true, Bool.false_eq_true, if_false] <;> rfl) (rfl) dX11_isNotice_11
  · exact cr_rz hx hb hr hlocks (by simp only [m_isN, b1, Bool.not_true, Bool.not_false, Bool.and_true, Bool.true_and, Bool.and_false, Bool.false_and, Bool.or_true, Bool.true_or, Bool.or_false, Bool.false_or, Bool.and_self, Bool.or_self, eq_self, if_true, Bool.false_eq_true, if_false] <;> rfl) (rfl) dX11_isNotice_11
set_option maxHeartbeats 1000000 in
set_option maxRecDepth 20000 in
theorem c_isFree (l : Launch) (E : EV) (A : Nat → Prop) (σ : St) (M : Nat → Nat) (d : Int32) : Cr l E yX11_isFree cX11_isFree 2 (some .boolean) 0 0 [.ref (M 0), .int d] (fun H => Md E A σ M H ∧ InvM σ ∧ okD d) (some (.int (bI (m_isFree σ d)))) := by
  refine Cr.of (by decide +kernel) (Nat.le_of_ble_eq_true rfl) (fun pg ev s mi bel mth cd hx hb hr hml hown hu hlocks hE hP ls hl => ?_)
  have hl : lv_has ls 2 [(0, .ref (M 0)), (1, .int d)] := hl
  obtain ⟨hM, hI, hX⟩ := hP
  refine lv_iload_n hx hb dX11_isFree_0 rfl (lv_at hl 1 rfl) ?_
  refine lv_bipush (v := 7) hx hb dX11_isFree_1 (by decide) ?_
  refine lv_irem hx hb dX11_isFree_3 (by decide) ?_
  refine lv_bipush (v := 6) hx hb dX11_isFree_4 (by decide) ?_
  refine lv_icmp_eq (tgt := 22) hx hb dX11_isFree_6 (by decide) (fun c1 => ?_) (fun c1 => ?_)
  · refine lv_iconst (v := 0) hx hb dX11_isFree_22 (by decide) ?_
    exact cr_rz hx hb hr hlocks (by simp only [m_isFree, decide_eq_true c1, Bool.not_true, Bool.not_false, Bool.and_true, Bool.true_and, Bool.and_false, Bool.false_and, Bool.or_true, Bool.true_or, Bool.or_false, Bool.false_or, Bool.and_self, Bool.or_self, eq_self, if_true, Bool.false_eq_true, if_false] <;> rfl) (rfl) dX11_isFree_23
  · refine lv_aload_n hx hb dX11_isFree_9 rfl (lv_at hl 0 rfl) ?_
    refine rd_get (k := 16) (v := .ref (M 16)) hx hb hown hu hE ok12 (md_obj hM) (by decide) u773 (fun _ h => h) rfl dX11_isFree_10 ?_
    refine lv_iload_n hx hb dX11_isFree_13 rfl (lv_at hl 1 rfl) ?_
    refine mr_lz hx hb hE hM (okD_in hX) dX11_isFree_14 ?_
    refine lv_if_ne (tgt := 22) hx hb dX11_isFree_15 (by decide) (fun c2 => ?_) (fun c2 => ?_)
    · refine lv_iconst (v := 0) hx hb dX11_isFree_22 (by decide) ?_
      exact cr_rz hx hb hr hlocks (by simp only [m_isFree, decide_eq_false c1, decide_eq_false c2, Bool.not_true, Bool.not_false, Bool.and_true, Bool.true_and, Bool.and_false, Bool.false_and, Bool.or_true, Bool.true_or, Bool.or_false, Bool.false_or, Bool.and_self, Bool.or_self, eq_self, if_true, Bool.false_eq_true, if_false] <;> rfl) (rfl) dX11_isFree_23
    · refine lv_iconst (v := 1) hx hb dX11_isFree_18 (by decide) ?_
      refine lv_goto (tgt := 23) hx hb dX11_isFree_19 (by decide) ?_
      exact cr_rz hx hb hr hlocks (by simp only [m_isFree, decide_eq_false c1, decide_eq_true c2, Bool.not_true, Bool.not_false, Bool.and_true, Bool.true_and, Bool.and_false, Bool.false_and, Bool.or_true, Bool.true_or, Bool.or_false, Bool.false_or, Bool.and_self, Bool.or_self, eq_self, if_true, Bool.false_eq_true, if_false] <;> rfl) (rfl) dX11_isFree_23
set_option maxHeartbeats 1000000 in
set_option maxRecDepth 20000 in
theorem c_isParent (l : Launch) (E : EV) (A : Nat → Prop) (σ : St) (M : Nat → Nat) (p x : Int32) : Cr l E yX11_isParent cX11_isParent 3 (some .boolean) 0 0 [.ref (M 0), .int p, .int x] (fun H => Md E A σ M H ∧ InvM σ ∧ okP σ x) (some (.int (bI (m_isParent σ p x)))) := by
  refine Cr.of (by decide +kernel) (Nat.le_of_ble_eq_true rfl) (fun pg ev s mi bel mth cd hx hb hr hml hown hu hlocks hE hP ls hl => ?_)
  have hl : lv_has ls 3 [(0, .ref (M 0)), (1, .int p), (2, .int x)] := hl
  obtain ⟨hM, hI, hX⟩ := hP
  refine lv_iload_n hx hb dX11_isParent_0 rfl (lv_at hl 1 rfl) ?_
  refine lv_iconst (v := (-1)) hx hb dX11_isParent_1 (by decide) ?_
  refine lv_icmp_eq (tgt := 29) hx hb dX11_isParent_2 (by decide) (fun c1 => ?_) (fun c1 => ?_)
  · refine lv_iconst (v := 0) hx hb dX11_isParent_29 (by decide) ?_
    exact cr_rz hx hb hr hlocks (by simp only [m_isParent, decide_eq_true c1, Bool.not_true, Bool.not_false, Bool.and_true, Bool.true_and, Bool.and_false, Bool.false_and, Bool.or_true, Bool.true_or, Bool.or_false, Bool.false_or, Bool.and_self, Bool.or_self, eq_self, if_true, Bool.false_eq_true, if_false] <;> rfl) (rfl) dX11_isParent_30
  · refine lv_aload_n hx hb dX11_isParent_5 rfl (lv_at hl 0 rfl) ?_
    refine rd_get (k := 6) (v := .ref (M 6)) hx hb hown hu hE ok12 (md_obj hM) (by decide) u763 (fun _ h => h) rfl dX11_isParent_6 ?_
    refine lv_iload_n hx hb dX11_isParent_9 rfl (lv_at hl 2 rfl) ?_
    refine mr_ld (t := 6) hx hb hE hM rfl (by decide) (okP_in hI hX) dX11_isParent_10 ?_
    refine lv_iload_n hx hb dX11_isParent_11 rfl (lv_at hl 1 rfl) ?_
    refine lv_icmp_eq (tgt := 25) hx hb dX11_isParent_12 (by decide) (fun c2 => ?_) (fun c2 => ?_)
    · refine lv_iconst (v := 1) hx hb dX11_isParent_25 (by decide) ?_
      refine lv_goto (tgt := 30) hx hb dX11_isParent_26 (by decide) ?_
      exact cr_rz hx hb hr hlocks (by simp only [m_isParent, decide_eq_false c1, decide_eq_true c2, Bool.not_true, Bool.not_false, Bool.and_true, Bool.true_and, Bool.and_false, Bool.false_and, Bool.or_true, Bool.true_or, Bool.or_false, Bool.false_or, Bool.and_self, Bool.or_self, eq_self, if_true, Bool.false_eq_true, if_false] <;> rfl) (rfl) dX11_isParent_30
    · refine lv_aload_n hx hb dX11_isParent_15 rfl (lv_at hl 0 rfl) ?_
      refine rd_get (k := 7) (v := .ref (M 7)) hx hb hown hu hE ok12 (md_obj hM) (by decide) u764 (fun _ h => h) rfl dX11_isParent_16 ?_
      refine lv_iload_n hx hb dX11_isParent_19 rfl (lv_at hl 2 rfl) ?_
      refine mr_ld (t := 7) hx hb hE hM rfl (by decide) (okP_in hI hX) dX11_isParent_20 ?_
      refine lv_iload_n hx hb dX11_isParent_21 rfl (lv_at hl 1 rfl) ?_
      refine lv_icmp_ne (tgt := 29) hx hb dX11_isParent_22 (by decide) (fun c3 => ?_) (fun c3 => ?_)
      · refine lv_iconst (v := 0) hx hb dX11_isParent_29 (by decide) ?_
        exact cr_rz hx hb hr hlocks (by simp only [m_isParent, decide_eq_false c1, decide_eq_false c2, decide_eq_false c3, Bool.not_true, Bool.not_false, Bool.and_true, Bool.true_and, Bool.and_false, Bool.false_and, Bool.or_true, Bool.true_or, Bool.or_false, Bool.false_or, Bool.and_self, Bool.or_self, eq_self, if_true, Bool.false_eq_true, if_false] <;> rfl) (rfl) dX11_isParent_30
      · refine lv_iconst (v := 1) hx hb dX11_isParent_25 (by decide) ?_
        refine lv_goto (tgt := 30) hx hb dX11_isParent_26 (by decide) ?_
        exact cr_rz hx hb hr hlocks (by simp only [m_isParent, decide_eq_false c1, decide_eq_false c2, decide_eq_true c3, Bool.not_true, Bool.not_false, Bool.and_true, Bool.true_and, Bool.and_false, Bool.false_and, Bool.or_true, Bool.true_or, Bool.or_false, Bool.false_or, Bool.and_self, Bool.or_self, eq_self, if_true, Bool.false_eq_true, if_false] <;> rfl) (rfl) dX11_isParent_30
set_option maxHeartbeats 1000000 in
set_option maxRecDepth 20000 in
theorem c_share (l : Launch) (E : EV) (A : Nat → Prop) (σ : St) (M : Nat → Nat) (a b : Int32) : Cr l E yX11_share cX11_share 3 (some .boolean) 0 0 [.ref (M 0), .int a, .int b] (fun H => Md E A σ M H ∧ InvM σ ∧ okP σ a ∧ okP σ b) (some (.int (bI (m_share σ a b)))) := by
  refine Cr.of (by decide +kernel) (Nat.le_of_ble_eq_true rfl) (fun pg ev s mi bel mth cd hx hb hr hml hown hu hlocks hE hP ls hl => ?_)
  have hl : lv_has ls 3 [(0, .ref (M 0)), (1, .int a), (2, .int b)] := hl
  obtain ⟨hM, hI, hX⟩ := hP
  refine lv_iload_n hx hb dX11_share_0 rfl (lv_at hl 1 rfl) ?_
  refine lv_iload_n hx hb dX11_share_1 rfl (lv_at hl 2 rfl) ?_
  refine lv_icmp_eq (tgt := 59) hx hb dX11_share_2 (by decide) (fun c1 => ?_) (fun c1 => ?_)
  · refine lv_iconst (v := 0) hx hb dX11_share_59 (by decide) ?_
    exact cr_rz hx hb hr hlocks (by simp only [m_share, decide_eq_true c1, Bool.not_true, Bool.not_false, Bool.and_true, Bool.true_and, Bool.and_false, Bool.false_and, Bool.or_true, Bool.true_or, Bool.or_false, Bool.false_or, Bool.and_self, Bool.or_self, eq_self, if_true, Bool.false_eq_true, if_false] <;> rfl) (rfl) dX11_share_60
  · refine lv_aload_n hx hb dX11_share_5 rfl (lv_at hl 0 rfl) ?_
    refine rd_get (k := 6) (v := .ref (M 6)) hx hb hown hu hE ok12 (md_obj hM) (by decide) u763 (fun _ h => h) rfl dX11_share_6 ?_
    refine lv_iload_n hx hb dX11_share_9 rfl (lv_at hl 1 rfl) ?_
    refine mr_ld (t := 6) hx hb hE hM rfl (by decide) (okP_in hI hX.1) dX11_share_10 ?_
    refine lv_iconst (v := (-1)) hx hb dX11_share_11 (by decide) ?_
    refine lv_icmp_eq (tgt := 30) hx hb dX11_share_12 (by decide) (fun c2 => ?_) (fun c2 => ?_)
    · refine lv_aload_n hx hb dX11_share_30 rfl (lv_at hl 0 rfl) ?_
      refine rd_get (k := 7) (v := .ref (M 7)) hx hb hown hu hE ok12 (md_obj hM) (by decide) u764 (fun _ h => h) rfl dX11_share_31 ?_
      refine lv_iload_n hx hb dX11_share_34 rfl (lv_at hl 1 rfl) ?_
      refine mr_ld (t := 7) hx hb hE hM rfl (by decide) (okP_in hI hX.1) dX11_share_35 ?_
      refine lv_iconst (v := (-1)) hx hb dX11_share_36 (by decide) ?_
      refine lv_icmp_eq (tgt := 59) hx hb dX11_share_37 (by decide) (fun c3 => ?_) (fun c3 => ?_)
      · refine lv_iconst (v := 0) hx hb dX11_share_59 (by decide) ?_
        exact cr_rz hx hb hr hlocks (by simp only [m_share, decide_eq_false c1, decide_eq_true c2, decide_eq_true c3, Bool.not_true, Bool.not_false, Bool.and_true, Bool.true_and, Bool.and_false, Bool.false_and, Bool.or_true, Bool.true_or, Bool.or_false, Bool.false_or, Bool.and_self, Bool.or_self, eq_self, if_true, Bool.false_eq_true, if_false] <;> rfl) (rfl) dX11_share_60
      · refine lv_aload_n hx hb dX11_share_40 rfl (lv_at hl 0 rfl) ?_
        refine rd_get (k := 7) (v := .ref (M 7)) hx hb hown hu hE ok12 (md_obj hM) (by decide) u764 (fun _ h => h) rfl dX11_share_41 ?_
        refine lv_iload_n hx hb dX11_share_44 rfl (lv_at hl 1 rfl) ?_
        refine mr_ld (t := 7) hx hb hE hM rfl (by decide) (okP_in hI hX.1) dX11_share_45 ?_
        refine lv_aload_n hx hb dX11_share_46 rfl (lv_at hl 0 rfl) ?_
        refine rd_get (k := 7) (v := .ref (M 7)) hx hb hown hu hE ok12 (md_obj hM) (by decide) u764 (fun _ h => h) rfl dX11_share_47 ?_
        refine lv_iload_n hx hb dX11_share_50 rfl (lv_at hl 2 rfl) ?_
        refine mr_ld (t := 7) hx hb hE hM rfl (by decide) (okP_in hI hX.2) dX11_share_51 ?_
        refine lv_icmp_ne (tgt := 59) hx hb dX11_share_52 (by decide) (fun c4 => ?_) (fun c4 => ?_)
        · refine lv_iconst (v := 0) hx hb dX11_share_59 (by decide) ?_
          exact cr_rz hx hb hr hlocks (by simp only [m_share, decide_eq_false c1, decide_eq_true c2, decide_eq_false c3, decide_eq_false c4, Bool.not_true, Bool.not_false, Bool.and_true, Bool.true_and, Bool.and_false, Bool.false_and, Bool.or_true, Bool.true_or, Bool.or_false, Bool.false_or, Bool.and_self, Bool.or_self, eq_self, if_true, Bool.false_eq_true, if_false] <;> rfl) (rfl) dX11_share_60
        · refine lv_iconst (v := 1) hx hb dX11_share_55 (by decide) ?_
          refine lv_goto (tgt := 60) hx hb dX11_share_56 (by decide) ?_
          exact cr_rz hx hb hr hlocks (by simp only [m_share, decide_eq_false c1, decide_eq_true c2, decide_eq_false c3, decide_eq_true c4, Bool.not_true, Bool.not_false, Bool.and_true, Bool.true_and, Bool.and_false, Bool.false_and, Bool.or_true, Bool.true_or, Bool.or_false, Bool.false_or, Bool.and_self, Bool.or_self, eq_self, if_true, Bool.false_eq_true, if_false] <;> rfl) (rfl) dX11_share_60
    · refine lv_aload_n hx hb dX11_share_15 rfl (lv_at hl 0 rfl) ?_
      refine rd_get (k := 6) (v := .ref (M 6)) hx hb hown hu hE ok12 (md_obj hM) (by decide) u763 (fun _ h => h) rfl dX11_share_16 ?_
      refine lv_iload_n hx hb dX11_share_19 rfl (lv_at hl 1 rfl) ?_
      refine mr_ld (t := 6) hx hb hE hM rfl (by decide) (okP_in hI hX.1) dX11_share_20 ?_
      refine lv_aload_n hx hb dX11_share_21 rfl (lv_at hl 0 rfl) ?_
      refine rd_get (k := 6) (v := .ref (M 6)) hx hb hown hu hE ok12 (md_obj hM) (by decide) u763 (fun _ h => h) rfl dX11_share_22 ?_
      refine lv_iload_n hx hb dX11_share_25 rfl (lv_at hl 2 rfl) ?_
      refine mr_ld (t := 6) hx hb hE hM rfl (by decide) (okP_in hI hX.2) dX11_share_26 ?_
      refine lv_icmp_eq (tgt := 55) hx hb dX11_share_27 (by decide) (fun c5 => ?_) (fun c5 => ?_)
      · refine lv_iconst (v := 1) hx hb dX11_share_55 (by decide) ?_
        refine lv_goto (tgt := 60) hx hb dX11_share_56 (by decide) ?_
        exact cr_rz hx hb hr hlocks (by simp only [m_share, decide_eq_false c1, decide_eq_false c2, decide_eq_true c5, Bool.not_true, Bool.not_false, Bool.and_true, Bool.true_and, Bool.and_false, Bool.false_and, Bool.or_true, Bool.true_or, Bool.or_false, Bool.false_or, Bool.and_self, Bool.or_self, eq_self, if_true, Bool.false_eq_true, if_false] <;> rfl) (rfl) dX11_share_60
      · refine lv_aload_n hx hb dX11_share_30 rfl (lv_at hl 0 rfl) ?_
        refine rd_get (k := 7) (v := .ref (M 7)) hx hb hown hu hE ok12 (md_obj hM) (by decide) u764 (fun _ h => h) rfl dX11_share_31 ?_
        refine lv_iload_n hx hb dX11_share_34 rfl (lv_at hl 1 rfl) ?_
        refine mr_ld (t := 7) hx hb hE hM rfl (by decide) (okP_in hI hX.1) dX11_share_35 ?_
        refine lv_iconst (v := (-1)) hx hb dX11_share_36 (by decide) ?_
        refine lv_icmp_eq (tgt := 59) hx hb dX11_share_37 (by decide) (fun c6 => ?_) (fun c6 => ?_)
        · refine lv_iconst (v := 0) hx hb dX11_share_59 (by decide) ?_
          exact cr_rz hx hb hr hlocks (by simp only [m_share, decide_eq_false c1, decide_eq_false c2, decide_eq_false c5, decide_eq_true c6, Bool.not_true, Bool.not_false, Bool.and_true, Bool.true_and, Bool.and_false, Bool.false_and, Bool.or_true, Bool.true_or, Bool.or_false, Bool.false_or, Bool.and_self, Bool.or_self, eq_self, if_true, Bool.false_eq_true, if_false] <;> rfl) (rfl) dX11_share_60
        · refine lv_aload_n hx hb dX11_share_40 rfl (lv_at hl 0 rfl) ?_
          refine rd_get (k := 7) (v := .ref (M 7)) hx hb hown hu hE ok12 (md_obj hM) (by decide) u764 (fun _ h => h) rfl dX11_share_41 ?_
          refine lv_iload_n hx hb dX11_share_44 rfl (lv_at hl 1 rfl) ?_
          refine mr_ld (t := 7) hx hb hE hM rfl (by decide) (okP_in hI hX.1) dX11_share_45 ?_
          refine lv_aload_n hx hb dX11_share_46 rfl (lv_at hl 0 rfl) ?_
          refine rd_get (k := 7) (v := .ref (M 7)) hx hb hown hu hE ok12 (md_obj hM) (by decide) u764 (fun _ h => h) rfl dX11_share_47 ?_
          refine lv_iload_n hx hb dX11_share_50 rfl (lv_at hl 2 rfl) ?_
          refine mr_ld (t := 7) hx hb hE hM rfl (by decide) (okP_in hI hX.2) dX11_share_51 ?_
          refine lv_icmp_ne (tgt := 59) hx hb dX11_share_52 (by decide) (fun c7 => ?_) (fun c7 => ?_)
          · refine lv_iconst (v := 0) hx hb dX11_share_59 (by decide) ?_
            exact cr_rz hx hb hr hlocks (by simp only [m_share, decide_eq_false c1, decide_eq_false c2, decide_eq_false c5, decide_eq_false c6, decide_eq_false c7, Bool.not_true, Bool.not_false, Bool.and_true, Bool.true_and, Bool.and_false, Bool.false_and, Bool.or_true, Bool.true_or, Bool.or_false, Bool.false_or, Bool.and_self, Bool.or_self, eq_self, if_true, Bool.false_eq_true, if_false] <;> rfl) (rfl) dX11_share_60
          · refine lv_iconst (v := 1) hx hb dX11_share_55 (by decide) ?_
            refine lv_goto (tgt := 60) hx hb dX11_share_56 (by decide) ?_
            exact cr_rz hx hb hr hlocks (by simp only [m_share, decide_eq_false c1, decide_eq_false c2, decide_eq_false c5, decide_eq_false c6, decide_eq_true c7, Bool.not_true, Bool.not_false, Bool.and_true, Bool.true_and, Bool.and_false, Bool.false_and, Bool.or_true, Bool.true_or, Bool.or_false, Bool.false_or, Bool.and_self, Bool.or_self, eq_self, if_true, Bool.false_eq_true, if_false] <;> rfl) (rfl) dX11_share_60
set_option maxHeartbeats 1000000 in
set_option maxRecDepth 20000 in
theorem c_parent (l : Launch) (E : EV) (A : Nat → Prop) (σ : St) (M : Nat → Nat) (p x : Int32) : Cr l E yX11_parent cX11_parent 3 (some .int) 0 0 [.ref (M 0), .int p, .int x] (fun H => Md E A σ M H ∧ InvM σ ∧ okP σ p) (some (.int (m_parent σ p x))) := by
  refine Cr.of (by decide +kernel) (Nat.le_of_ble_eq_true rfl) (fun pg ev s mi bel mth cd hx hb hr hml hown hu hlocks hE hP ls hl => ?_)
  have hl : lv_has ls 3 [(0, .ref (M 0)), (1, .int p), (2, .int x)] := hl
  obtain ⟨hM, hI, hX⟩ := hP
  refine lv_iload_n hx hb dX11_parent_0 rfl (lv_at hl 2 rfl) ?_
  refine lv_if_ne (tgt := 13) hx hb dX11_parent_1 (by decide) (fun c1 => ?_) (fun c1 => ?_)
  · refine lv_aload_n hx hb dX11_parent_13 rfl (lv_at hl 0 rfl) ?_
    refine rd_get (k := 7) (v := .ref (M 7)) hx hb hown hu hE ok12 (md_obj hM) (by decide) u764 (fun _ h => h) rfl dX11_parent_14 ?_
    refine lv_iload_n hx hb dX11_parent_17 rfl (lv_at hl 1 rfl) ?_
    refine mr_ld (t := 7) hx hb hE hM rfl (by decide) (okP_in hI hX) dX11_parent_18 ?_
    exact cr_ri hx hb hr hlocks (by simp only [m_parent, decide_eq_false c1, Bool.not_true, Bool.not_false, Bool.and_true, Bool.true_and, Bool.and_false, Bool.false_and, Bool.or_true, Bool.true_or, Bool.or_false, Bool.false_or, Bool.and_self, Bool.or_self, eq_self, if_true, Bool.false_eq_true, if_false]) dX11_parent_19
  · refine lv_aload_n hx hb dX11_parent_4 rfl (lv_at hl 0 rfl) ?_
    refine rd_get (k := 6) (v := .ref (M 6)) hx hb hown hu hE ok12 (md_obj hM) (by decide) u763 (fun _ h => h) rfl dX11_parent_5 ?_
    refine lv_iload_n hx hb dX11_parent_8 rfl (lv_at hl 1 rfl) ?_
    refine mr_ld (t := 6) hx hb hE hM rfl (by decide) (okP_in hI hX) dX11_parent_9 ?_
    refine lv_goto (tgt := 19) hx hb dX11_parent_10 (by decide) ?_
    exact cr_ri hx hb hr hlocks (by simp only [m_parent, decide_eq_true c1, Bool.not_true, Bool.not_false, Bool.and_true, Bool.true_and, Bool.and_false, Bool.false_and, Bool.or_true, Bool.true_or, Bool.or_false, Bool.false_or, Bool.and_self, Bool.or_self, eq_self, if_true, Bool.false_eq_true, if_false]) dX11_parent_19
set_option maxHeartbeats 1000000 in
set_option maxRecDepth 20000 in
theorem c_kinOf (l : Launch) (E : EV) (A : Nat → Prop) (σ : St) (M : Nat → Nat) (a b : Int32) : Cr l E yX11_kinOf cX11_kinOf 8 (some .int) 1 22 [.ref (M 0), .int a, .int b] (fun H => Md E A σ M H ∧ InvM σ ∧ okP σ a ∧ okP σ b) (some (.int (m_kinOf σ a b))) := by
  refine Cr.of (by decide +kernel) (Nat.le_of_ble_eq_true rfl) (fun pg ev s mi bel mth cd hx hb hr hml hown hu hlocks hE hP ls hl => ?_)
  have hl : lv_has ls 8 [(0, .ref (M 0)), (1, .int a), (2, .int b)] := hl
  obtain ⟨hM, hI, hX⟩ := hP
  refine lv_aload_n hx hb dX11_kinOf_0 rfl (lv_at hl 0 rfl) ?_
  refine lv_iload_n hx hb dX11_kinOf_1 rfl (lv_at hl 1 rfl) ?_
  refine lv_iload_n hx hb dX11_kinOf_2 rfl (lv_at hl 2 rfl) ?_
  refine cr_V (As := [.int a, .int b]) (rest := []) hx hb hml hown hu hE (c_isParent l E A σ M a b) kX11_isParent u909 (md_obj hM) rfl rfl (⟨hM, hI, hX.2⟩) ⟨Nat.le_of_ble_eq_true rfl, Nat.le_of_ble_eq_true rfl⟩ rfl hl.1 rfl (Nat.le_of_ble_eq_true rfl) ⟨Nat.le_of_ble_eq_true rfl, Nat.le_of_ble_eq_true rfl⟩ dX11_kinOf_3 ?_
  refine onB (fun b1 => ?_) (fun b1 => ?_)
  · refine lv_if_ne (tgt := 27) hx hb dX11_kinOf_6 (by decide) (fun _ => ?_) (fun c2 => absurd c2 (by decide))
    refine lv_iconst (v := 1) hx hb dX11_kinOf_27 (by decide) ?_
    exact cr_ri hx hb hr hlocks (by simp only [m_kinOf, m_k1, b1, Bool.not_true, Bool.not_false, Bool.and_true, Bool.true_and, Bool.and_false, Bool.false_and, Bool.or_true, Bool.true_or, Bool.or_false, Bool.false_or, Bool.and_self, Bool.or_self, eq_self, if_true, Bool.false_eq_true, if_false]) dX11_kinOf_28
  · refine lv_if_ne (tgt := 27) hx hb dX11_kinOf_6 (by decide) (fun c3 => absurd c3 (by decide)) (fun _ => ?_)
    refine lv_aload_n hx hb dX11_kinOf_9 rfl (lv_at hl 0 rfl) ?_
    refine lv_iload_n hx hb dX11_kinOf_10 rfl (lv_at hl 2 rfl) ?_
    refine lv_iload_n hx hb dX11_kinOf_11 rfl (lv_at hl 1 rfl) ?_
    refine cr_V (As := [.int b, .int a]) (rest := []) hx hb hml hown hu hE (c_isParent l E A σ M b a) kX11_isParent u909 (md_obj hM) rfl rfl (⟨hM, hI, hX.1⟩) ⟨Nat.le_of_ble_eq_true rfl, Nat.le_of_ble_eq_true rfl⟩ rfl hl.1 rfl (Nat.le_of_ble_eq_true rfl) ⟨Nat.le_of_ble_eq_true rfl, Nat.le_of_ble_eq_true rfl⟩ dX11_kinOf_12 ?_
    refine onB (fun b4 => ?_) (fun b4 => ?_)
    · refine lv_if_ne (tgt := 27) hx hb dX11_kinOf_15 (by decide) (fun _ => ?_) (fun c5 => absurd c5 (by decide))
      refine lv_iconst (v := 1) hx hb dX11_kinOf_27 (by decide) ?_
      exact cr_ri hx hb hr hlocks (by simp only [m_kinOf, m_k1, b1, b4, Bool.not_true, Bool.not_false, Bool.and_true, Bool.true_and, Bool.and_false, Bool.false_and, Bool.or_true, Bool.true_or, Bool.or_false, Bool.false_or, Bool.and_self, Bool.or_self, eq_self, if_true, Bool.false_eq_true, if_false]) dX11_kinOf_28
    · refine lv_if_ne (tgt := 27) hx hb dX11_kinOf_15 (by decide) (fun c6 => absurd c6 (by decide)) (fun _ => ?_)
      refine lv_aload_n hx hb dX11_kinOf_18 rfl (lv_at hl 0 rfl) ?_
      refine lv_iload_n hx hb dX11_kinOf_19 rfl (lv_at hl 1 rfl) ?_
      refine lv_iload_n hx hb dX11_kinOf_20 rfl (lv_at hl 2 rfl) ?_
      refine cr_V (As := [.int a, .int b]) (rest := []) hx hb hml hown hu hE (c_share l E A σ M a b) kX11_share u913 (md_obj hM) rfl rfl (⟨hM, hI, hX⟩) ⟨Nat.le_of_ble_eq_true rfl, Nat.le_of_ble_eq_true rfl⟩ rfl hl.1 rfl (Nat.le_of_ble_eq_true rfl) ⟨Nat.le_of_ble_eq_true rfl, Nat.le_of_ble_eq_true rfl⟩ dX11_kinOf_21 ?_
      refine onB (fun b7 => ?_) (fun b7 => ?_)
      · refine lv_if_eq (tgt := 29) hx hb dX11_kinOf_24 (by decide) (fun c8 => absurd c8 (by decide)) (fun _ => ?_)
        refine lv_iconst (v := 1) hx hb dX11_kinOf_27 (by decide) ?_
        exact cr_ri hx hb hr hlocks (by simp only [m_kinOf, m_k1, b1, b4, b7, Bool.not_true, Bool.not_false, Bool.and_true, Bool.true_and, Bool.and_false, Bool.false_and, Bool.or_true, Bool.true_or, Bool.or_false, Bool.false_or, Bool.and_self, Bool.or_self, eq_self, if_true, Bool.false_eq_true, if_false]) dX11_kinOf_28
      · refine lv_if_eq (tgt := 29) hx hb dX11_kinOf_24 (by decide) (fun _ => ?_) (fun c9 => absurd (by decide) c9)
        obtain ⟨T, hT⟩ : ∃ z, z = m_koL σ a b 2 0 0 := ⟨_, rfl⟩
        have lo : ∀ (f i : Nat) (kin : Int32), (i + f = 2) → (m_koL σ a b f i kin = T) → (m_k1 σ a b = false) → ∀ (ls : Array Slot), lv_has ls 8 [(0, .ref (M 0)), (1, .int a), (2, .int b), (3, .int kin), (4, .int (nI i))] → W pg l ev { frames := 1, cells := 0, slots := 0, locals := 22 } s mi [.ref (M 0), .int a, .int b].toArray bel mth cd s.heap [] 0 0 (QR bel s [.ref (M 0), .int a, .int b].toArray (some (.int (m_kinOf σ a b)))) (F0 mi 34 ls []) := by
          intro f
          induction f with
          | zero =>
            intro i kin hk hi h1 ls hl
            refine lv_iload hx hb dX11_kinOf_34 (lv_at hl 4 rfl) ?_
            refine lv_iconst (v := 2) hx hb dX11_kinOf_36 (by decide) ?_
            refine lv_icmp_ge (tgt := 170) hx hb dX11_kinOf_37 (by decide) (fun c10 => ?_) (fun c10 => absurd (show nI 2 ≤ _ from nI_le (by omega) (by omega)) c10)
            refine lv_iload_n hx hb dX11_kinOf_170 rfl (lv_at hl 3 rfl) ?_
            exact cr_ri hx hb hr hlocks (by simp only [m_koL] at hi; simp only [m_kinOf, h1, Bool.not_true, Bool.not_false, Bool.and_true, Bool.true_and, Bool.and_false, Bool.false_and, Bool.or_true, Bool.true_or, Bool.or_false, Bool.false_or, Bool.and_self, Bool.or_self, eq_self, if_true, Bool.false_eq_true, if_false]; rw [← hT, ← hi]) dX11_kinOf_171
          | succ f ih =>
            intro i kin hk hi h1 ls hl
            have hp := pa_ok (w := nI i) hI hX.1
            have hq := pa_ok (w := nI i) hI hX.2
            refine lv_iload hx hb dX11_kinOf_34 (lv_at hl 4 rfl) ?_
            refine lv_iconst (v := 2) hx hb dX11_kinOf_36 (by decide) ?_
            refine lv_icmp_ge (tgt := 170) hx hb dX11_kinOf_37 (by decide) (fun c11 => absurd c11 (show ¬ nI 2 ≤ _ from nI_ge (by omega) (by omega))) (fun c11 => ?_)
            refine lv_aload_n hx hb dX11_kinOf_40 rfl (lv_at hl 0 rfl) ?_
            refine lv_iload_n hx hb dX11_kinOf_41 rfl (lv_at hl 1 rfl) ?_
            refine lv_iload hx hb dX11_kinOf_42 (lv_at hl 4 rfl) ?_
            refine cr_V (As := [.int a, .int (nI i)]) (rest := []) hx hb hml hown hu hE (c_parent l E A σ M a (nI i)) kX11_parent u917 (md_obj hM) rfl rfl (⟨hM, hI, hX.1⟩) ⟨Nat.le_of_ble_eq_true rfl, Nat.le_of_ble_eq_true rfl⟩ rfl hl.1 rfl (Nat.le_of_ble_eq_true rfl) ⟨Nat.le_of_ble_eq_true rfl, Nat.le_of_ble_eq_true rfl⟩ dX11_kinOf_44 ?_
            refine lv_istore (lv' := [(5, .int (m_parent σ a (nI i))), (0, .ref (M 0)), (1, .int a), (2, .int b), (3, .int kin), (4, .int (nI i))]) hx hb dX11_kinOf_47 hl (by decide) rfl (fun ls hl => ?_)
            refine lv_aload_n hx hb dX11_kinOf_49 rfl (lv_at hl 1 rfl) ?_
            refine lv_iload_n hx hb dX11_kinOf_50 rfl (lv_at hl 3 rfl) ?_
            refine lv_iload hx hb dX11_kinOf_51 (lv_at hl 5 rfl) ?_
            refine cr_V (As := [.int b, .int (nI i)]) (rest := []) hx hb hml hown hu hE (c_parent l E A σ M b (nI i)) kX11_parent u917 (md_obj hM) rfl rfl (⟨hM, hI, hX.2⟩) ⟨Nat.le_of_ble_eq_true rfl, Nat.le_of_ble_eq_true rfl⟩ rfl hl.1 rfl (Nat.le_of_ble_eq_true rfl) ⟨Nat.le_of_ble_eq_true rfl, Nat.le_of_ble_eq_true rfl⟩ dX11_kinOf_53 ?_
            refine lv_istore (lv' := [(6, .int (m_parent σ b (nI i))), (5, .int (m_parent σ a (nI i))), (0, .ref (M 0)), (1, .int a), (2, .int b), (3, .int kin), (4, .int (nI i))]) hx hb dX11_kinOf_56 hl (by decide) rfl (fun ls hl => ?_)
            have j86 : (m_k2 σ (m_parent σ a (nI i)) b = false) → ∀ (ls : Array Slot), lv_has ls 8 [(0, .ref (M 0)), (1, .int a), (2, .int b), (3, .int kin), (4, .int (nI i)), (5, .int (m_parent σ a (nI i))), (6, .int (m_parent σ b (nI i)))] → W pg l ev { frames := 1, cells := 0, slots := 0, locals := 22 } s mi [.ref (M 0), .int a, .int b].toArray bel mth cd s.heap [] 0 0 (QR bel s [.ref (M 0), .int a, .int b].toArray (some (.int (m_kinOf σ a b)))) (F0 mi 86 ls []) := by
              intro h2 ls hl
              have j114 : (m_k2 σ (m_parent σ b (nI i)) a = false) → ∀ (ls : Array Slot), lv_has ls 8 [(0, .ref (M 0)), (1, .int a), (2, .int b), (3, .int kin), (4, .int (nI i)), (5, .int (m_parent σ a (nI i)))] → W pg l ev { frames := 1, cells := 0, slots := 0, locals := 22 } s mi [.ref (M 0), .int a, .int b].toArray bel mth cd s.heap [] 0 0 (QR bel s [.ref (M 0), .int a, .int b].toArray (some (.int (m_kinOf σ a b)))) (F0 mi 114 ls []) := by
                intro h3 ls hl
                refine lv_iconst (v := 0) hx hb dX11_kinOf_114 (by decide) ?_
                refine lv_istore (lv' := [(7, .int 0), (0, .ref (M 0)), (1, .int a), (2, .int b), (3, .int kin), (4, .int (nI i)), (5, .int (m_parent σ a (nI i)))]) hx hb dX11_kinOf_115 hl (by decide) rfl (fun ls hl => ?_)
                obtain ⟨T2, hT2⟩ : ∃ z, z = m_kiL σ (m_parent σ a (nI i)) b 2 0 kin := ⟨_, rfl⟩
                have li : ∀ (g k : Nat) (kj : Int32), (k + g = 2) → (m_kiL σ (m_parent σ a (nI i)) b g k kj = T2) → ∀ (ls : Array Slot), lv_has ls 8 [(0, .ref (M 0)), (1, .int a), (2, .int b), (3, .int kj), (4, .int (nI i)), (5, .int (m_parent σ a (nI i))), (7, .int (nI k))] → W pg l ev { frames := 1, cells := 0, slots := 0, locals := 22 } s mi [.ref (M 0), .int a, .int b].toArray bel mth cd s.heap [] 0 0 (QR bel s [.ref (M 0), .int a, .int b].toArray (some (.int (m_kinOf σ a b)))) (F0 mi 117 ls []) := by
                  intro g
                  induction g with
                  | zero =>
                    intro k kj hk2 hj ls hl
                    refine lv_iload hx hb dX11_kinOf_117 (lv_at hl 6 rfl) ?_
                    refine lv_iconst (v := 2) hx hb dX11_kinOf_119 (by decide) ?_
                    refine lv_icmp_ge (tgt := 164) hx hb dX11_kinOf_120 (by decide) (fun c12 => ?_) (fun c12 => absurd (show nI 2 ≤ _ from nI_le (by omega) (by omega)) c12)
                    refine lv_iinc (v := nI (i + 1)) (lv' := [(4, .int (nI (i + 1))), (0, .ref (M 0)), (1, .int a), (2, .int b), (3, .int kj), (5, .int (m_parent σ a (nI i))), (7, .int (nI k))]) hx hb dX11_kinOf_164 hl (k := 4) rfl (nI_1 i) (by decide) rfl (fun ls hl => ?_)
                    refine lv_goto (tgt := 34) hx hb dX11_kinOf_167 (by decide) ?_
                    exact ih (i + 1) _ (by omega) (by simp only [m_kiL, eq_self, Bool.not_true, Bool.not_false, Bool.and_true, Bool.true_and, Bool.and_false, Bool.false_and, Bool.or_true, Bool.true_or, Bool.or_false, Bool.false_or, Bool.and_self, Bool.or_self, eq_self, if_true, Bool.false_eq_true, if_false] at hj; simp only [m_koL, h2, h3, Bool.not_true, Bool.not_false, Bool.and_true, Bool.true_and, Bool.and_false, Bool.false_and, Bool.or_true, Bool.true_or, Bool.or_false, Bool.false_or, Bool.and_self, Bool.or_self, eq_self, if_true, Bool.false_eq_true, if_false] at hi; rw [hj, hT2]; exact hi) h1 _ (lv_sub hl [1, 2, 3, 4, 0] rfl)
                  | succ g ih2 =>
                    intro k kj hk2 hj ls hl
                    refine lv_iload hx hb dX11_kinOf_117 (lv_at hl 6 rfl) ?_
                    refine lv_iconst (v := 2) hx hb dX11_kinOf_119 (by decide) ?_
                    refine lv_icmp_ge (tgt := 164) hx hb dX11_kinOf_120 (by decide) (fun c13 => absurd c13 (show ¬ nI 2 ≤ _ from nI_ge (by omega) (by omega))) (fun c13 => ?_)
                    refine lv_iload hx hb dX11_kinOf_123 (lv_at hl 5 rfl) ?_
                    refine lv_iconst (v := (-1)) hx hb dX11_kinOf_125 (by decide) ?_
                    refine lv_icmp_eq (tgt := 164) hx hb dX11_kinOf_126 (by decide) (fun c14 => ?_) (fun c14 => ?_)
                    · refine lv_iinc (v := nI (i + 1)) (lv' := [(4, .int (nI (i + 1))), (0, .ref (M 0)), (1, .int a), (2, .int b), (3, .int kj), (5, .int (m_parent σ a (nI i))), (7, .int (nI k))]) hx hb dX11_kinOf_164 hl (k := 4) rfl (nI_1 i) (by decide) rfl (fun ls hl => ?_)
                      refine lv_goto (tgt := 34) hx hb dX11_kinOf_167 (by decide) ?_
                      exact ih (i + 1) _ (by omega) (by simp only [m_kiL, decide_eq_true c14, Bool.not_true, Bool.not_false, Bool.and_true, Bool.true_and, Bool.and_false, Bool.false_and, Bool.or_true, Bool.true_or, Bool.or_false, Bool.false_or, Bool.and_self, Bool.or_self, eq_self, if_true, Bool.false_eq_true, if_false] at hj; simp only [m_koL, h2, h3, Bool.not_true, Bool.not_false, Bool.and_true, Bool.true_and, Bool.and_false, Bool.false_and, Bool.or_true, Bool.true_or, Bool.or_false, Bool.false_or, Bool.and_self, Bool.or_self, eq_self, if_true, Bool.false_eq_true, if_false] at hi; rw [hj, hT2]; exact hi) h1 _ (lv_sub hl [1, 2, 3, 4, 0] rfl)
                    · refine lv_aload_n hx hb dX11_kinOf_129 rfl (lv_at hl 0 rfl) ?_
                      refine lv_iload_n hx hb dX11_kinOf_130 rfl (lv_at hl 2 rfl) ?_
                      refine lv_iload hx hb dX11_kinOf_131 (lv_at hl 6 rfl) ?_
                      refine cr_V (As := [.int b, .int (nI k)]) (rest := []) hx hb hml hown hu hE (c_parent l E A σ M b (nI k)) kX11_parent u917 (md_obj hM) rfl rfl (⟨hM, hI, hX.2⟩) ⟨Nat.le_of_ble_eq_true rfl, Nat.le_of_ble_eq_true rfl⟩ rfl hl.1 rfl (Nat.le_of_ble_eq_true rfl) ⟨Nat.le_of_ble_eq_true rfl, Nat.le_of_ble_eq_true rfl⟩ dX11_kinOf_133 ?_
                      refine lv_iconst (v := (-1)) hx hb dX11_kinOf_136 (by decide) ?_
                      refine lv_icmp_eq (tgt := 158) hx hb dX11_kinOf_137 (by decide) (fun c15 => ?_) (fun c15 => ?_)
                      · refine lv_iinc (v := nI (k + 1)) (lv' := [(7, .int (nI (k + 1))), (0, .ref (M 0)), (1, .int a), (2, .int b), (3, .int kj), (4, .int (nI i)), (5, .int (m_parent σ a (nI i)))]) hx hb dX11_kinOf_158 hl (k := 6) rfl (nI_1 k) (by decide) rfl (fun ls hl => ?_)
                        refine lv_goto (tgt := 117) hx hb dX11_kinOf_161 (by decide) ?_
                        exact ih2 (k + 1) _ (by omega) (by simp only [m_kiL, m_k3, decide_eq_false c14, decide_eq_true c15, Bool.not_true, Bool.not_false, Bool.and_true, Bool.true_and, Bool.and_false, Bool.false_and, Bool.or_true, Bool.true_or, Bool.or_false, Bool.false_or, Bool.and_self, Bool.or_self, eq_self, if_true, Bool.false_eq_true, if_false] at hj; exact hj) _ (lv_sub hl [1, 2, 3, 4, 5, 6, 0] rfl)
                      · refine lv_aload_n hx hb dX11_kinOf_140 rfl (lv_at hl 0 rfl) ?_
                        refine lv_iload hx hb dX11_kinOf_141 (lv_at hl 5 rfl) ?_
                        refine lv_aload_n hx hb dX11_kinOf_143 rfl (lv_at hl 0 rfl) ?_
                        refine lv_iload_n hx hb dX11_kinOf_144 rfl (lv_at hl 2 rfl) ?_
                        refine lv_iload hx hb dX11_kinOf_145 (lv_at hl 6 rfl) ?_
                        refine cr_V (As := [.int b, .int (nI k)]) (rest := [.int (m_parent σ a (nI i)), .ref (M 0)]) hx hb hml hown hu hE (c_parent l E A σ M b (nI k)) kX11_parent u917 (md_obj hM) rfl rfl (⟨hM, hI, hX.2⟩) ⟨Nat.le_of_ble_eq_true rfl, Nat.le_of_ble_eq_true rfl⟩ rfl hl.1 rfl (Nat.le_of_ble_eq_true rfl) ⟨Nat.le_of_ble_eq_true rfl, Nat.le_of_ble_eq_true rfl⟩ dX11_kinOf_147 ?_
                        refine cr_V (As := [.int (m_parent σ a (nI i)), .int (m_parent σ b (nI k))]) (rest := []) hx hb hml hown hu hE (c_share l E A σ M (m_parent σ a (nI i)) (m_parent σ b (nI k))) kX11_share u913 (md_obj hM) rfl rfl (⟨hM, hI, ⟨okPN_of hp (by assumption), okPN_of (pa_ok hI hX.2) (by assumption)⟩⟩) ⟨Nat.le_of_ble_eq_true rfl, Nat.le_of_ble_eq_true rfl⟩ rfl hl.1 rfl (Nat.le_of_ble_eq_true rfl) ⟨Nat.le_of_ble_eq_true rfl, Nat.le_of_ble_eq_true rfl⟩ dX11_kinOf_150 ?_
                        refine onB (fun b16 => ?_) (fun b16 => ?_)
                        · refine lv_if_eq (tgt := 158) hx hb dX11_kinOf_153 (by decide) (fun c17 => absurd c17 (by decide)) (fun _ => ?_)
                          refine lv_iconst (v := 3) hx hb dX11_kinOf_156 (by decide) ?_
                          refine lv_istore_n (lv' := [(3, .int 3), (0, .ref (M 0)), (1, .int a), (2, .int b), (4, .int (nI i)), (5, .int (m_parent σ a (nI i))), (7, .int (nI k))]) hx hb dX11_kinOf_157 rfl hl (by decide) rfl (fun ls hl => ?_)
                          refine lv_iinc (v := nI (k + 1)) (lv' := [(7, .int (nI (k + 1))), (3, .int 3), (0, .ref (M 0)), (1, .int a), (2, .int b), (4, .int (nI i)), (5, .int (m_parent σ a (nI i)))]) hx hb dX11_kinOf_158 hl (k := 6) rfl (nI_1 k) (by decide) rfl (fun ls hl => ?_)
                          refine lv_goto (tgt := 117) hx hb dX11_kinOf_161 (by decide) ?_
                          exact ih2 (k + 1) _ (by omega) (by simp only [m_kiL, m_k3, decide_eq_false c14, decide_eq_false c15, b16, Bool.not_true, Bool.not_false, Bool.and_true, Bool.true_and, Bool.and_false, Bool.false_and, Bool.or_true, Bool.true_or, Bool.or_false, Bool.false_or, Bool.and_self, Bool.or_self, eq_self, if_true, Bool.false_eq_true, if_false] at hj; exact hj) _ (lv_sub hl [2, 3, 4, 1, 5, 6, 0] rfl)
                        · refine lv_if_eq (tgt := 158) hx hb dX11_kinOf_153 (by decide) (fun _ => ?_) (fun c18 => absurd (by decide) c18)
                          refine lv_iinc (v := nI (k + 1)) (lv' := [(7, .int (nI (k + 1))), (0, .ref (M 0)), (1, .int a), (2, .int b), (3, .int kj), (4, .int (nI i)), (5, .int (m_parent σ a (nI i)))]) hx hb dX11_kinOf_158 hl (k := 6) rfl (nI_1 k) (by decide) rfl (fun ls hl => ?_)
                          refine lv_goto (tgt := 117) hx hb dX11_kinOf_161 (by decide) ?_
                          exact ih2 (k + 1) _ (by omega) (by simp only [m_kiL, m_k3, decide_eq_false c14, decide_eq_false c15, b16, Bool.not_true, Bool.not_false, Bool.and_true, Bool.true_and, Bool.and_false, Bool.false_and, Bool.or_true, Bool.true_or, Bool.or_false, Bool.false_or, Bool.and_self, Bool.or_self, eq_self, if_true, Bool.false_eq_true, if_false] at hj; exact hj) _ (lv_sub hl [1, 2, 3, 4, 5, 6, 0] rfl)
                exact li 2 0 kin rfl hT2.symm _ (lv_sub hl [1, 2, 3, 4, 5, 6, 0] rfl)
              refine lv_iload hx hb dX11_kinOf_86 (lv_at hl 6 rfl) ?_
              refine lv_iconst (v := (-1)) hx hb dX11_kinOf_88 (by decide) ?_
              refine lv_icmp_eq (tgt := 114) hx hb dX11_kinOf_89 (by decide) (fun c19 => ?_) (fun c19 => ?_)
              · exact j114 (by simp only [m_k2, decide_eq_true c19, Bool.not_true, Bool.not_false, Bool.and_true, Bool.true_and, Bool.and_false, Bool.false_and, Bool.or_true, Bool.true_or, Bool.or_false, Bool.false_or, Bool.and_self, Bool.or_self, eq_self, if_true, Bool.false_eq_true, if_false]) _ (lv_sub hl [0, 1, 2, 3, 4, 5] rfl)
              · refine lv_aload_n hx hb dX11_kinOf_92 rfl (lv_at hl 0 rfl) ?_
                refine lv_iload hx hb dX11_kinOf_93 (lv_at hl 6 rfl) ?_
                refine lv_iload_n hx hb dX11_kinOf_95 rfl (lv_at hl 1 rfl) ?_
                refine cr_V (As := [.int (m_parent σ b (nI i)), .int a]) (rest := []) hx hb hml hown hu hE (c_share l E A σ M (m_parent σ b (nI i)) a) kX11_share u913 (md_obj hM) rfl rfl (⟨hM, hI, ⟨okPN_of hq (by assumption), hX.1⟩⟩) ⟨Nat.le_of_ble_eq_true rfl, Nat.le_of_ble_eq_true rfl⟩ rfl hl.1 rfl (Nat.le_of_ble_eq_true rfl) ⟨Nat.le_of_ble_eq_true rfl, Nat.le_of_ble_eq_true rfl⟩ dX11_kinOf_96 ?_
                refine onB (fun b20 => ?_) (fun b20 => ?_)
                · refine lv_if_ne (tgt := 112) hx hb dX11_kinOf_99 (by decide) (fun _ => ?_) (fun c21 => absurd c21 (by decide))
                  refine lv_iconst (v := 2) hx hb dX11_kinOf_112 (by decide) ?_
                  exact cr_ri hx hb hr hlocks (by simp only [m_koL, h2, Bool.not_true, Bool.not_false, Bool.and_true, Bool.true_and, Bool.and_false, Bool.false_and, Bool.or_true, Bool.true_or, Bool.or_false, Bool.false_or, Bool.and_self, Bool.or_self, eq_self, if_true, Bool.false_eq_true, if_false] at hi; simp only [m_k2, decide_eq_false c19, b20, Bool.not_true, Bool.not_false, Bool.and_true, Bool.true_and, Bool.and_false, Bool.false_and, Bool.or_true, Bool.true_or, Bool.or_false, Bool.false_or, Bool.and_self, Bool.or_self, eq_self, if_true, Bool.false_eq_true, if_false] at hi; simp only [m_kinOf, h1, Bool.not_true, Bool.not_false, Bool.and_true, Bool.true_and, Bool.and_false, Bool.false_and, Bool.or_true, Bool.true_or, Bool.or_false, Bool.false_or, Bool.and_self, Bool.or_self, eq_self, if_true, Bool.false_eq_true, if_false]; rw [← hT, ← hi]) dX11_kinOf_113
                · refine lv_if_ne (tgt := 112) hx hb dX11_kinOf_99 (by decide) (fun c22 => absurd c22 (by decide)) (fun _ => ?_)
                  refine lv_aload_n hx hb dX11_kinOf_102 rfl (lv_at hl 0 rfl) ?_
                  refine lv_iload_n hx hb dX11_kinOf_103 rfl (lv_at hl 1 rfl) ?_
                  refine lv_iload hx hb dX11_kinOf_104 (lv_at hl 6 rfl) ?_
                  refine cr_V (As := [.int a, .int (m_parent σ b (nI i))]) (rest := []) hx hb hml hown hu hE (c_isParent l E A σ M a (m_parent σ b (nI i))) kX11_isParent u909 (md_obj hM) rfl rfl (⟨hM, hI, okPN_of hq (by assumption)⟩) ⟨Nat.le_of_ble_eq_true rfl, Nat.le_of_ble_eq_true rfl⟩ rfl hl.1 rfl (Nat.le_of_ble_eq_true rfl) ⟨Nat.le_of_ble_eq_true rfl, Nat.le_of_ble_eq_true rfl⟩ dX11_kinOf_106 ?_
                  refine onB (fun b23 => ?_) (fun b23 => ?_)
                  · refine lv_if_eq (tgt := 114) hx hb dX11_kinOf_109 (by decide) (fun c24 => absurd c24 (by decide)) (fun _ => ?_)
                    refine lv_iconst (v := 2) hx hb dX11_kinOf_112 (by decide) ?_
                    exact cr_ri hx hb hr hlocks (by simp only [m_koL, h2, Bool.not_true, Bool.not_false, Bool.and_true, Bool.true_and, Bool.and_false, Bool.false_and, Bool.or_true, Bool.true_or, Bool.or_false, Bool.false_or, Bool.and_self, Bool.or_self, eq_self, if_true, Bool.false_eq_true, if_false] at hi; simp only [m_k2, decide_eq_false c19, b20, b23, Bool.not_true, Bool.not_false, Bool.and_true, Bool.true_and, Bool.and_false, Bool.false_and, Bool.or_true, Bool.true_or, Bool.or_false, Bool.false_or, Bool.and_self, Bool.or_self, eq_self, if_true, Bool.false_eq_true, if_false] at hi; simp only [m_kinOf, h1, Bool.not_true, Bool.not_false, Bool.and_true, Bool.true_and, Bool.and_false, Bool.false_and, Bool.or_true, Bool.true_or, Bool.or_false, Bool.false_or, Bool.and_self, Bool.or_self, eq_self, if_true, Bool.false_eq_true, if_false]; rw [← hT, ← hi]) dX11_kinOf_113
                  · refine lv_if_eq (tgt := 114) hx hb dX11_kinOf_109 (by decide) (fun _ => ?_) (fun c25 => absurd (by decide) c25)
                    exact j114 (by simp only [m_k2, decide_eq_false c19, b20, b23, Bool.not_true, Bool.not_false, Bool.and_true, Bool.true_and, Bool.and_false, Bool.false_and, Bool.or_true, Bool.true_or, Bool.or_false, Bool.false_or, Bool.and_self, Bool.or_self, eq_self, if_true, Bool.false_eq_true, if_false]) _ (lv_sub hl [0, 1, 2, 3, 4, 5] rfl)
            refine lv_iload hx hb dX11_kinOf_58 (lv_at hl 1 rfl) ?_
            refine lv_iconst (v := (-1)) hx hb dX11_kinOf_60 (by decide) ?_
            refine lv_icmp_eq (tgt := 86) hx hb dX11_kinOf_61 (by decide) (fun c26 => ?_) (fun c26 => ?_)
            · exact j86 (by simp only [m_k2, decide_eq_true c26, Bool.not_true, Bool.not_false, Bool.and_true, Bool.true_and, Bool.and_false, Bool.false_and, Bool.or_true, Bool.true_or, Bool.or_false, Bool.false_or, Bool.and_self, Bool.or_self, eq_self, if_true, Bool.false_eq_true, if_false]) _ (lv_sub hl [2, 3, 4, 5, 6, 1, 0] rfl)
            · refine lv_aload_n hx hb dX11_kinOf_64 rfl (lv_at hl 2 rfl) ?_
              refine lv_iload hx hb dX11_kinOf_65 (lv_at hl 1 rfl) ?_
              refine lv_iload_n hx hb dX11_kinOf_67 rfl (lv_at hl 4 rfl) ?_
              refine cr_V (As := [.int (m_parent σ a (nI i)), .int b]) (rest := []) hx hb hml hown hu hE (c_share l E A σ M (m_parent σ a (nI i)) b) kX11_share u913 (md_obj hM) rfl rfl (⟨hM, hI, ⟨okPN_of hp (by assumption), hX.2⟩⟩) ⟨Nat.le_of_ble_eq_true rfl, Nat.le_of_ble_eq_true rfl⟩ rfl hl.1 rfl (Nat.le_of_ble_eq_true rfl) ⟨Nat.le_of_ble_eq_true rfl, Nat.le_of_ble_eq_true rfl⟩ dX11_kinOf_68 ?_
              refine onB (fun b27 => ?_) (fun b27 => ?_)
              · refine lv_if_ne (tgt := 84) hx hb dX11_kinOf_71 (by decide) (fun _ => ?_) (fun c28 => absurd c28 (by decide))
                refine lv_iconst (v := 2) hx hb dX11_kinOf_84 (by decide) ?_
                exact cr_ri hx hb hr hlocks (by simp only [m_koL, m_k2, decide_eq_false c26, b27, Bool.not_true, Bool.not_false, Bool.and_true, Bool.true_and, Bool.and_false, Bool.false_and, Bool.or_true, Bool.true_or, Bool.or_false, Bool.false_or, Bool.and_self, Bool.or_self, eq_self, if_true, Bool.false_eq_true, if_false] at hi; simp only [m_kinOf, h1, Bool.not_true, Bool.not_false, Bool.and_true, Bool.true_and, Bool.and_false, Bool.false_and, Bool.or_true, Bool.true_or, Bool.or_false, Bool.false_or, Bool.and_self, Bool.or_self, eq_self, if_true, Bool.false_eq_true, if_false]; rw [← hT, ← hi]) dX11_kinOf_85
              · refine lv_if_ne (tgt := 84) hx hb dX11_kinOf_71 (by decide) (fun c29 => absurd c29 (by decide)) (fun _ => ?_)
                refine lv_aload_n hx hb dX11_kinOf_74 rfl (lv_at hl 2 rfl) ?_
                refine lv_iload_n hx hb dX11_kinOf_75 rfl (lv_at hl 4 rfl) ?_
                refine lv_iload hx hb dX11_kinOf_76 (lv_at hl 1 rfl) ?_
                refine cr_V (As := [.int b, .int (m_parent σ a (nI i))]) (rest := []) hx hb hml hown hu hE (c_isParent l E A σ M b (m_parent σ a (nI i))) kX11_isParent u909 (md_obj hM) rfl rfl (⟨hM, hI, okPN_of hp (by assumption)⟩) ⟨Nat.le_of_ble_eq_true rfl, Nat.le_of_ble_eq_true rfl⟩ rfl hl.1 rfl (Nat.le_of_ble_eq_true rfl) ⟨Nat.le_of_ble_eq_true rfl, Nat.le_of_ble_eq_true rfl⟩ dX11_kinOf_78 ?_
                refine onB (fun b30 => ?_) (fun b30 => ?_)
                · refine lv_if_eq (tgt := 86) hx hb dX11_kinOf_81 (by decide) (fun c31 => absurd c31 (by decide)) (fun _ => ?_)
                  refine lv_iconst (v := 2) hx hb dX11_kinOf_84 (by decide) ?_
                  exact cr_ri hx hb hr hlocks (by simp only [m_koL, m_k2, decide_eq_false c26, b27, b30, Bool.not_true, Bool.not_false, Bool.and_true, Bool.true_and, Bool.and_false, Bool.false_and, Bool.or_true, Bool.true_or, Bool.or_false, Bool.false_or, Bool.and_self, Bool.or_self, eq_self, if_true, Bool.false_eq_true, if_false] at hi; simp only [m_kinOf, h1, Bool.not_true, Bool.not_false, Bool.and_true, Bool.true_and, Bool.and_false, Bool.false_and, Bool.or_true, Bool.true_or, Bool.or_false, Bool.false_or, Bool.and_self, Bool.or_self, eq_self, if_true, Bool.false_eq_true, if_false]; rw [← hT, ← hi]) dX11_kinOf_85
                · refine lv_if_eq (tgt := 86) hx hb dX11_kinOf_81 (by decide) (fun _ => ?_) (fun c32 => absurd (by decide) c32)
                  exact j86 (by simp only [m_k2, decide_eq_false c26, b27, b30, Bool.not_true, Bool.not_false, Bool.and_true, Bool.true_and, Bool.and_false, Bool.false_and, Bool.or_true, Bool.true_or, Bool.or_false, Bool.false_or, Bool.and_self, Bool.or_self, eq_self, if_true, Bool.false_eq_true, if_false]) _ (lv_sub hl [2, 3, 4, 5, 6, 1, 0] rfl)
        refine lv_iconst (v := 0) hx hb dX11_kinOf_29 (by decide) ?_
        refine lv_istore_n (lv' := [(3, .int 0), (0, .ref (M 0)), (1, .int a), (2, .int b)]) hx hb dX11_kinOf_30 rfl hl (by decide) rfl (fun ls hl => ?_)
        refine lv_iconst (v := 0) hx hb dX11_kinOf_31 (by decide) ?_
        refine lv_istore (lv' := [(4, .int 0), (3, .int 0), (0, .ref (M 0)), (1, .int a), (2, .int b)]) hx hb dX11_kinOf_32 hl (by decide) rfl (fun ls hl => ?_)
        exact lo 2 0 0 rfl hT.symm (by simp only [m_k1, b1, b4, b7, Bool.not_true, Bool.not_false, Bool.and_true, Bool.true_and, Bool.and_false, Bool.false_and, Bool.or_true, Bool.true_or, Bool.or_false, Bool.false_or, Bool.and_self, Bool.or_self, eq_self, if_true, Bool.false_eq_true, if_false]) _ (lv_sub hl [2, 3, 4, 1, 0] rfl)
set_option maxHeartbeats 1000000 in
set_option maxRecDepth 20000 in
theorem c_kin (l : Launch) (E : EV) (A : Nat → Prop) (σ : St) (M : Nat → Nat) (a b : Int32) : Cr l E yX11_kin cX11_kin 3 (some .int) 2 49 [.ref (M 0), .int a, .int b] (fun H => Md E A σ M H ∧ InvM σ) (some (.int (m_kin σ a b))) := by
  refine Cr.of (by decide +kernel) (Nat.le_of_ble_eq_true rfl) (fun pg ev s mi bel mth cd hx hb hr hml hown hu hlocks hE hP ls hl => ?_)
  have hl : lv_has ls 3 [(0, .ref (M 0)), (1, .int a), (2, .int b)] := hl
  obtain ⟨hM, hI⟩ := hP
  refine lv_aload_n hx hb dX11_kin_0 rfl (lv_at hl 0 rfl) ?_
  refine lv_iload_n hx hb dX11_kin_1 rfl (lv_at hl 1 rfl) ?_
  refine cr_V (As := [.int a]) (rest := []) hx hb hml hown hu hE (c_isPerson l E A σ M a) kX11_isPerson u880 (md_obj hM) rfl rfl (⟨hM, hI⟩) ⟨Nat.le_of_ble_eq_true rfl, Nat.le_of_ble_eq_true rfl⟩ rfl hl.1 rfl (Nat.le_of_ble_eq_true rfl) ⟨Nat.le_of_ble_eq_true rfl, Nat.le_of_ble_eq_true rfl⟩ dX11_kin_2 ?_
  refine onB (fun b1 => ?_) (fun b1 => ?_)
  · refine lv_if_eq (tgt := 30) hx hb dX11_kin_5 (by decide) (fun c2 => absurd c2 (by decide)) (fun _ => ?_)
    refine lv_aload_n hx hb dX11_kin_8 rfl (lv_at hl 0 rfl) ?_
    refine lv_iload_n hx hb dX11_kin_9 rfl (lv_at hl 2 rfl) ?_
    refine cr_V (As := [.int b]) (rest := []) hx hb hml hown hu hE (c_isPerson l E A σ M b) kX11_isPerson u880 (md_obj hM) rfl rfl (⟨hM, hI⟩) ⟨Nat.le_of_ble_eq_true rfl, Nat.le_of_ble_eq_true rfl⟩ rfl hl.1 rfl (Nat.le_of_ble_eq_true rfl) ⟨Nat.le_of_ble_eq_true rfl, Nat.le_of_ble_eq_true rfl⟩ dX11_kin_10 ?_
    refine onB (fun b3 => ?_) (fun b3 => ?_)
    · refine lv_if_eq (tgt := 30) hx hb dX11_kin_13 (by decide) (fun c4 => absurd c4 (by decide)) (fun _ => ?_)
      refine lv_iload_n hx hb dX11_kin_16 rfl (lv_at hl 1 rfl) ?_
      refine lv_iload_n hx hb dX11_kin_17 rfl (lv_at hl 2 rfl) ?_
      refine lv_icmp_eq (tgt := 30) hx hb dX11_kin_18 (by decide) (fun c5 => ?_) (fun c5 => ?_)
      · refine lv_iconst (v := (-1)) hx hb dX11_kin_30 (by decide) ?_
        exact cr_ri hx hb hr hlocks (by simp only [m_kin, b1, b3, decide_eq_true c5, Bool.not_true, Bool.not_false, Bool.and_true, Bool.true_and, Bool.and_false, Bool.false_and, Bool.or_true, Bool.true_or, Bool.or_false, Bool.false_or, Bool.and_self, Bool.or_self, eq_self, if_true, Bool.false_eq_true, if_false]) dX11_kin_31
      · refine lv_aload_n hx hb dX11_kin_21 rfl (lv_at hl 0 rfl) ?_
        refine lv_iload_n hx hb dX11_kin_22 rfl (lv_at hl 1 rfl) ?_
        refine lv_iload_n hx hb dX11_kin_23 rfl (lv_at hl 2 rfl) ?_
        refine cr_V (As := [.int a, .int b]) (rest := []) hx hb hml hown hu hE (c_kinOf l E A σ M a b) kX11_kinOf u905 (md_obj hM) rfl rfl (⟨hM, hI, ⟨isP_ok hI b1, isP_ok hI b3⟩⟩) ⟨Nat.le_of_ble_eq_true rfl, Nat.le_of_ble_eq_true rfl⟩ rfl hl.1 rfl (Nat.le_of_ble_eq_true rfl) ⟨Nat.le_of_ble_eq_true rfl, Nat.le_of_ble_eq_true rfl⟩ dX11_kin_24 ?_
        refine lv_goto (tgt := 31) hx hb dX11_kin_27 (by decide) ?_
        exact cr_ri hx hb hr hlocks (by simp only [m_kin, b1, b3, decide_eq_false c5, Bool.not_true, Bool.not_false, Bool.and_true, Bool.true_and, Bool.and_false, Bool.false_and, Bool.or_true, Bool.true_or, Bool.or_false, Bool.false_or, Bool.and_self, Bool.or_self, eq_self, if_true, Bool.false_eq_true, if_false]) dX11_kin_31
    · refine lv_if_eq (tgt := 30) hx hb dX11_kin_13 (by decide) (fun _ => ?_) (fun c6 => absurd (by decide) c6)
      refine lv_iconst (v := (-1)) hx hb dX11_kin_30 (by decide) ?_
      exact cr_ri hx hb hr hlocks (by simp only [m_kin, b1, b3, Bool.not_true, Bool.not_false, Bool.and_true, Bool.true_and, Bool.and_false, Bool.false_and, Bool.or_true, Bool.true_or, Bool.or_false, Bool.false_or, Bool.and_self, Bool.or_self, eq_self, if_true, Bool.false_eq_true, if_false]) dX11_kin_31
  · refine lv_if_eq (tgt := 30) hx hb dX11_kin_5 (by decide) (fun _ => ?_) (fun c7 => absurd (by decide) c7)
    refine lv_iconst (v := (-1)) hx hb dX11_kin_30 (by decide) ?_
    exact cr_ri hx hb hr hlocks (by simp only [m_kin, b1, Bool.not_true, Bool.not_false, Bool.and_true, Bool.true_and, Bool.and_false, Bool.false_and, Bool.or_true, Bool.true_or, Bool.or_false, Bool.false_or, Bool.and_self, Bool.or_self, eq_self, if_true, Bool.false_eq_true, if_false]) dX11_kin_31
