set_option maxHeartbeats 1000000 in
set_option maxRecDepth 20000 in
theorem c_paper (l : Launch) (E : EV) (A : Nat → Prop) (σ : St) (M : Nat → Nat) (pr kd dy : Int32) : Ct l E yX11_paper cX11_paper 4 (some .boolean) 2 43 0 0 A [.ref (M 0), .int pr, .int kd, .int dy] (fun H => Md E A σ M H ∧ InvM σ) (fun v H => v = some (.int (m_paper σ pr kd dy).1) ∧ Md E A (m_paper σ pr kd dy).2 M H) := by
  refine Ct.of (by decide +kernel) (Nat.le_of_ble_eq_true rfl) (fun pg ev s mi bel mth cd hx hb hr hml hown hu hlocks hnm hE hP hA hZ ls hl => ?_)
  have hl : lv_has ls 4 [(0, .ref (M 0)), (1, .int pr), (2, .int kd), (3, .int dy)] := hl
  have hS : va_S A s.heap s.heap [] := va_S.rf
  obtain ⟨hM, hI⟩ := hP
  refine lv_aload_n hx hb dX11_paper_0 rfl (lv_at hl 0 rfl) ?_
  refine lv_iload_n hx hb dX11_paper_1 rfl (lv_at hl 1 rfl) ?_
  refine cr_V (As := [.int pr]) (rest := []) hx hb hml hown hu hE (c_isPerson l E A σ M pr) kX11_isPerson u880 (md_obj hM) rfl rfl (⟨hM, hI⟩) ⟨Nat.le_of_ble_eq_true rfl, Nat.le_of_ble_eq_true rfl⟩ rfl hl.1 rfl (Nat.le_of_ble_eq_true rfl) ⟨Nat.le_of_ble_eq_true rfl, Nat.le_of_ble_eq_true rfl⟩ dX11_paper_2 ?_
  refine onB (fun b1 => ?_) (fun b1 => ?_)
  · refine lv_if_eq (tgt := 39) hx hb dX11_paper_5 (by decide) (fun c2 => absurd c2 (by decide)) (fun _ => ?_)
    refine lv_iload_n hx hb dX11_paper_8 rfl (lv_at hl 2 rfl) ?_
    refine lv_iconst (v := 0) hx hb dX11_paper_9 (by decide) ?_
    refine lv_iconst (v := 2) hx hb dX11_paper_10 (by decide) ?_
    refine cr_S (As := [.int kd, .int 0, .int 2]) (rest := []) hx hb hml hown hu hE (c_in l E kd 0 2) kX11_in u873 (trivial) ⟨Nat.le_of_ble_eq_true rfl, Nat.le_of_ble_eq_true rfl⟩ rfl hl.1 rfl (Nat.le_of_ble_eq_true rfl) ⟨Nat.le_of_ble_eq_true rfl, Nat.le_of_ble_eq_true rfl⟩ dX11_paper_11 ?_
    refine onB (fun b3 => ?_) (fun b3 => ?_)
    · refine lv_if_eq (tgt := 39) hx hb dX11_paper_14 (by decide) (fun c4 => absurd c4 (by decide)) (fun _ => ?_)
      refine lv_iload_n hx hb dX11_paper_17 rfl (lv_at hl 3 rfl) ?_
      refine lv_iconst (v := 0) hx hb dX11_paper_18 (by decide) ?_
      refine lv_aload_n hx hb dX11_paper_19 rfl (lv_at hl 0 rfl) ?_
      refine rd_get (k := 0) (v := .int (σ 0 0)) hx hb hown hu hE ok12 (md_obj hM) (by decide) u757 (fun _ h => h) rfl dX11_paper_20 ?_
      refine cr_S (As := [.int dy, .int 0, .int (σ 0 0)]) (rest := []) hx hb hml hown hu hE (c_in l E dy 0 (σ 0 0)) kX11_in u873 (trivial) ⟨Nat.le_of_ble_eq_true rfl, Nat.le_of_ble_eq_true rfl⟩ rfl hl.1 rfl (Nat.le_of_ble_eq_true rfl) ⟨Nat.le_of_ble_eq_true rfl, Nat.le_of_ble_eq_true rfl⟩ dX11_paper_23 ?_
      refine onB (fun b5 => ?_) (fun b5 => ?_)
      · refine lv_if_eq (tgt := 39) hx hb dX11_paper_26 (by decide) (fun c6 => absurd c6 (by decide)) (fun _ => ?_)
        refine lv_aload_n hx hb dX11_paper_29 rfl (lv_at hl 0 rfl) ?_
        refine rd_get (k := 15) (v := .int (σ 15 0)) hx hb hown hu hE ok12 (md_obj hM) (by decide) u772 (fun _ h => h) rfl dX11_paper_30 ?_
        refine lv_sipush (v := 200) hx hb dX11_paper_33 (by decide) ?_
        refine lv_icmp_ne (tgt := 41) hx hb dX11_paper_36 (by decide) (fun c7 => ?_) (fun c7 => ?_)
        · refine lv_aload_n hx hb dX11_paper_41 rfl (lv_at hl 0 rfl) ?_
          refine rd_get (k := 12) (v := .ref (M 12)) hx hb hown hu hE ok12 (md_obj hM) (by decide) u769 (fun _ h => h) rfl dX11_paper_42 ?_
          refine lv_aload_n hx hb dX11_paper_45 rfl (lv_at hl 0 rfl) ?_
          refine rd_get (k := 15) (v := .int (σ 15 0)) hx hb hown hu hE ok12 (md_obj hM) (by decide) u772 (fun _ h => h) rfl dX11_paper_46 ?_
          refine lv_iload_n hx hb dX11_paper_49 rfl (lv_at hl 1 rfl) ?_
          refine mr_st (t := 12) hx hb hE hS hM rfl (by decide) (cnt_in (N := 200) hI.1.2.2.2.1 rfl c7) dX11_paper_50 (fun H1 locs1 hM hS => ?_)
          refine lv_aload_n hx hb dX11_paper_51 rfl (lv_at hl 0 rfl) ?_
          refine rd_get (k := 13) (v := .ref (M 13)) hx hb hown hu hE ok12 (md_obj hM) (by decide) u770 (fun _ h => h) rfl dX11_paper_52 ?_
          refine lv_aload_n hx hb dX11_paper_55 rfl (lv_at hl 0 rfl) ?_
          refine rd_get (k := 15) (v := .int (σ 15 0)) hx hb hown hu hE ok12 (md_obj hM) (by decide) u772 (fun _ h => h) rfl dX11_paper_56 ?_
          refine lv_iload_n hx hb dX11_paper_59 rfl (lv_at hl 2 rfl) ?_
          refine mr_st (t := 13) hx hb hE hS hM rfl (by decide) (cnt_in (N := 200) hI.1.2.2.2.1 rfl c7) dX11_paper_60 (fun H1 locs1 hM hS => ?_)
          refine lv_aload_n hx hb dX11_paper_61 rfl (lv_at hl 0 rfl) ?_
          refine rd_get (k := 14) (v := .ref (M 14)) hx hb hown hu hE ok12 (md_obj hM) (by decide) u771 (fun _ h => h) rfl dX11_paper_62 ?_
          refine lv_aload_n hx hb dX11_paper_65 rfl (lv_at hl 0 rfl) ?_
          refine rd_get (k := 15) (v := .int (σ 15 0)) hx hb hown hu hE ok12 (md_obj hM) (by decide) u772 (fun _ h => h) rfl dX11_paper_66 ?_
          refine lv_iload_n hx hb dX11_paper_69 rfl (lv_at hl 3 rfl) ?_
          refine mr_st (t := 14) hx hb hE hS hM rfl (by decide) (cnt_in (N := 200) hI.1.2.2.2.1 rfl c7) dX11_paper_70 (fun H1 locs1 hM hS => ?_)
          refine lv_aload_n hx hb dX11_paper_71 rfl (lv_at hl 0 rfl) ?_
          refine lv_dup hx hb dX11_paper_72 rfl ?_
          refine rd_get (k := 15) (v := .int (σ 15 0)) hx hb hown hu hE ok12 (md_obj hM) (by decide) u772 (fun _ h => h) rfl dX11_paper_73 ?_
          refine lv_iconst (v := 1) hx hb dX11_paper_76 (by decide) ?_
          refine lv_iadd hx hb dX11_paper_77 ?_
          refine mr_put (k := 15) (x := (σ 15 0) + 1) hx hb hown hu hE hS hM rfl (by decide) u772 rfl rfl rfl dX11_paper_78 (fun H1 locs1 hM hS => ?_)
          refine lv_iconst (v := 1) hx hb dX11_paper_81 (by decide) ?_
          exact ct_rz hx hb hr hlocks hS (by (have hB : (m_papBad σ pr kd dy) = false := (by simp only [m_papBad, b1, b3, b5, decide_eq_false c7, Bool.not_true, Bool.not_false, Bool.and_true, Bool.true_and, Bool.and_false, Bool.false_and, Bool.or_true, Bool.true_or, Bool.or_false, Bool.false_or, Bool.and_self, Bool.or_self, eq_self, if_true, Bool.false_eq_true, if_false])); unfold m_paper; rw [hB]; exact ⟨rfl, hM⟩) (rfl) (Nat.le_of_ble_eq_true rfl) (Nat.le_of_ble_eq_true rfl) dX11_paper_82
        · refine lv_iconst (v := 0) hx hb dX11_paper_39 (by decide) ?_
          exact ct_rz hx hb hr hlocks hS (by (have hB : (m_papBad σ pr kd dy) = true := (by simp only [m_papBad, b1, b3, b5, decide_eq_true c7, Bool.not_true, Bool.not_false, Bool.and_true, Bool.true_and, Bool.and_false, Bool.false_and, Bool.or_true, Bool.true_or, Bool.or_false, Bool.false_or, Bool.and_self, Bool.or_self, eq_self, if_true, Bool.false_eq_true, if_false])); unfold m_paper; rw [hB]; exact ⟨rfl, hM⟩) (rfl) (Nat.le_of_ble_eq_true rfl) (Nat.le_of_ble_eq_true rfl) dX11_paper_40
      · refine lv_if_eq (tgt := 39) hx hb dX11_paper_26 (by decide) (fun _ => ?_) (fun c8 => absurd (by decide) c8)
        refine lv_iconst (v := 0) hx hb dX11_paper_39 (by decide) ?_
        exact ct_rz hx hb hr hlocks hS (by (have hB : (m_papBad σ pr kd dy) = true := (by simp only [m_papBad, b1, b3, b5, Bool.not_true, Bool.not_false, Bool.and_true, Bool.true_and, Bool.and_false, Bool.false_and, Bool.or_true, Bool.true_or, Bool.or_false, Bool.false_or, Bool.and_self, Bool.or_self, eq_self, if_true, Bool.false_eq_true, if_false])); unfold m_paper; rw [hB]; exact ⟨rfl, hM⟩) (rfl) (Nat.le_of_ble_eq_true rfl) (Nat.le_of_ble_eq_true rfl) dX11_paper_40
    · refine lv_if_eq (tgt := 39) hx hb dX11_paper_14 (by decide) (fun _ => ?_) (fun c9 => absurd (by decide) c9)
      refine lv_iconst (v := 0) hx hb dX11_paper_39 (by decide) ?_
      exact ct_rz hx hb hr hlocks hS (by (have hB : (m_papBad σ pr kd dy) = true := (by simp only [m_papBad, b1, b3, Bool.not_true, Bool.not_false, Bool.and_true, Bool.true_and, Bool.and_false, Bool.false_and, Bool.or_true, Bool.true_or, Bool.or_false, Bool.false_or, Bool.and_self, Bool.or_self, eq_self, if_true, Bool.false_eq_true, if_false])); unfold m_paper; rw [hB]; exact ⟨rfl, hM⟩) (rfl) (Nat.le_of_ble_eq_true rfl) (Nat.le_of_ble_eq_true rfl) dX11_paper_40
  · refine lv_if_eq (tgt := 39) hx hb dX11_paper_5 (by decide) (fun _ => ?_) (fun c10 => absurd (by decide) c10)
    refine lv_iconst (v := 0) hx hb dX11_paper_39 (by decide) ?_
    exact ct_rz hx hb hr hlocks hS (by (have hB : (m_papBad σ pr kd dy) = true := (by simp only [m_papBad, b1, Bool.not_true, Bool.not_false, Bool.and_true, Bool.true_and, Bool.and_false, Bool.false_and, Bool.or_true, Bool.true_or, Bool.or_false, Bool.false_or, Bool.and_self, Bool.or_self, eq_self, if_true, Bool.false_eq_true, if_false])); unfold m_paper; rw [hB]; exact ⟨rfl, hM⟩) (rfl) (Nat.le_of_ble_eq_true rfl) (Nat.le_of_ble_eq_true rfl) dX11_paper_40
set_option maxHeartbeats 1000000 in
set_option maxRecDepth 20000 in
theorem c_registrar (l : Launch) (E : EV) (A : Nat → Prop) (σ : St) (M : Nat → Nat) (tg : Int32) : Ct l E yX11_registrar cX11_registrar 2 (some .int) 1 22 0 0 A [.ref (M 0), .int tg] (fun H => Md E A σ M H ∧ InvM σ) (fun v H => v = some (.int (m_registrar σ tg).1) ∧ Md E A (m_registrar σ tg).2 M H) := by
  refine Ct.of (by decide +kernel) (Nat.le_of_ble_eq_true rfl) (fun pg ev s mi bel mth cd hx hb hr hml hown hu hlocks hnm hE hP hA hZ ls hl => ?_)
  have hl : lv_has ls 2 [(0, .ref (M 0)), (1, .int tg)] := hl
  have hS : va_S A s.heap s.heap [] := va_S.rf
  obtain ⟨hM, hI⟩ := hP
  refine lv_iload_n hx hb dX11_registrar_0 rfl (lv_at hl 1 rfl) ?_
  refine lv_iconst (v := 0) hx hb dX11_registrar_1 (by decide) ?_
  refine lv_bipush (v := 31) hx hb dX11_registrar_2 (by decide) ?_
  refine cr_S (As := [.int tg, .int 0, .int 31]) (rest := []) hx hb hml hown hu hE (c_in l E tg 0 31) kX11_in u873 (trivial) ⟨Nat.le_of_ble_eq_true rfl, Nat.le_of_ble_eq_true rfl⟩ rfl hl.1 rfl (Nat.le_of_ble_eq_true rfl) ⟨Nat.le_of_ble_eq_true rfl, Nat.le_of_ble_eq_true rfl⟩ dX11_registrar_4 ?_
  refine onB (fun b1 => ?_) (fun b1 => ?_)
  · refine lv_if_eq (tgt := 19) hx hb dX11_registrar_7 (by decide) (fun c2 => absurd c2 (by decide)) (fun _ => ?_)
    refine lv_aload_n hx hb dX11_registrar_10 rfl (lv_at hl 0 rfl) ?_
    refine rd_get (k := 28) (v := .int (σ 28 0)) hx hb hown hu hE ok12 (md_obj hM) (by decide) u785 (fun _ h => h) rfl dX11_registrar_11 ?_
    refine lv_bipush (v := 6) hx hb dX11_registrar_14 (by decide) ?_
    refine lv_icmp_ne (tgt := 21) hx hb dX11_registrar_16 (by decide) (fun c3 => ?_) (fun c3 => ?_)
    · refine lv_aload_n hx hb dX11_registrar_21 rfl (lv_at hl 0 rfl) ?_
      refine rd_get (k := 27) (v := .ref (M 27)) hx hb hown hu hE ok12 (md_obj hM) (by decide) u784 (fun _ h => h) rfl dX11_registrar_22 ?_
      refine lv_aload_n hx hb dX11_registrar_25 rfl (lv_at hl 0 rfl) ?_
      refine rd_get (k := 28) (v := .int (σ 28 0)) hx hb hown hu hE ok12 (md_obj hM) (by decide) u785 (fun _ h => h) rfl dX11_registrar_26 ?_
      refine lv_iload_n hx hb dX11_registrar_29 rfl (lv_at hl 1 rfl) ?_
      refine mr_st (t := 27) hx hb hE hS hM rfl (by decide) (cnt_in (N := 6) hI.1.2.2.2.2.2.2.1 rfl c3) dX11_registrar_30 (fun H1 locs1 hM hS => ?_)
      refine lv_aload_n hx hb dX11_registrar_31 rfl (lv_at hl 0 rfl) ?_
      refine lv_dup hx hb dX11_registrar_32 rfl ?_
      refine rd_get (k := 28) (v := .int (σ 28 0)) hx hb hown hu hE ok12 (md_obj hM) (by decide) u785 (fun _ h => h) rfl dX11_registrar_33 ?_
      refine lv_iconst (v := 1) hx hb dX11_registrar_36 (by decide) ?_
      refine lv_iadd hx hb dX11_registrar_37 ?_
      refine mr_put (k := 28) (x := (σ 28 0) + 1) hx hb hown hu hE hS hM rfl (by decide) u785 rfl rfl rfl dX11_registrar_38 (fun H1 locs1 hM hS => ?_)
      refine lv_aload_n hx hb dX11_registrar_41 rfl (lv_at hl 0 rfl) ?_
      refine rd_get (k := 28) (v := .int ((σ 28 0) + 1)) hx hb hown hu hE ok12 (md_obj hM) (by decide) u785 (fun _ h => h) rfl dX11_registrar_42 ?_
      refine lv_iconst (v := 1) hx hb dX11_registrar_45 (by decide) ?_
      refine lv_isub hx hb dX11_registrar_46 ?_
      exact ct_ri hx hb hr hlocks hS (by (have hB : (m_reBad σ tg) = false := (by simp only [m_reBad, b1, decide_eq_false c3, Bool.not_true, Bool.not_false, Bool.and_true, Bool.true_and, Bool.and_false, Bool.false_and, Bool.or_true, Bool.true_or, Bool.or_false, Bool.false_or, Bool.and_self, Bool.or_self, eq_self, if_true, Bool.false_eq_true, if_false])); unfold m_registrar; rw [hB]; exact ⟨rfl, hM⟩) (Nat.le_of_ble_eq_true rfl) (Nat.le_of_ble_eq_true rfl) dX11_registrar_47
    · refine lv_iconst (v := (-1)) hx hb dX11_registrar_19 (by decide) ?_
      exact ct_ri hx hb hr hlocks hS (by (have hB : (m_reBad σ tg) = true := (by simp only [m_reBad, b1, decide_eq_true c3, Bool.not_true, Bool.not_false, Bool.and_true, Bool.true_and, Bool.and_false, Bool.false_and, Bool.or_true, Bool.true_or, Bool.or_false, Bool.false_or, Bool.and_self, Bool.or_self, eq_self, if_true, Bool.false_eq_true, if_false])); unfold m_registrar; rw [hB]; exact ⟨rfl, hM⟩) (Nat.le_of_ble_eq_true rfl) (Nat.le_of_ble_eq_true rfl) dX11_registrar_20
  · refine lv_if_eq (tgt := 19) hx hb dX11_registrar_7 (by decide) (fun _ => ?_) (fun c4 => absurd (by decide) c4)
    refine lv_iconst (v := (-1)) hx hb dX11_registrar_19 (by decide) ?_
    exact ct_ri hx hb hr hlocks hS (by (have hB : (m_reBad σ tg) = true := (by simp only [m_reBad, b1, Bool.not_true, Bool.not_false, Bool.and_true, Bool.true_and, Bool.and_false, Bool.false_and, Bool.or_true, Bool.true_or, Bool.or_false, Bool.false_or, Bool.and_self, Bool.or_self, eq_self, if_true, Bool.false_eq_true, if_false])); unfold m_registrar; rw [hB]; exact ⟨rfl, hM⟩) (Nat.le_of_ble_eq_true rfl) (Nat.le_of_ble_eq_true rfl) dX11_registrar_20
set_option maxHeartbeats 1000000 in
set_option maxRecDepth 20000 in
theorem c_feast (l : Launch) (E : EV) (A : Nat → Prop) (σ : St) (M : Nat → Nat) (d : Int32) : Ct l E yX11_feast cX11_feast 2 (some .boolean) 1 22 0 0 A [.ref (M 0), .int d] (fun H => Md E A σ M H ∧ InvM σ) (fun v H => v = some (.int (m_feast σ d).1) ∧ Md E A (m_feast σ d).2 M H) := by
  refine Ct.of (by decide +kernel) (Nat.le_of_ble_eq_true rfl) (fun pg ev s mi bel mth cd hx hb hr hml hown hu hlocks hnm hE hP hA hZ ls hl => ?_)
  have hl : lv_has ls 2 [(0, .ref (M 0)), (1, .int d)] := hl
  have hS : va_S A s.heap s.heap [] := va_S.rf
  obtain ⟨hM, hI⟩ := hP
  refine lv_iload_n hx hb dX11_feast_0 rfl (lv_at hl 1 rfl) ?_
  refine lv_iconst (v := 0) hx hb dX11_feast_1 (by decide) ?_
  refine lv_sipush (v := 20000) hx hb dX11_feast_2 (by decide) ?_
  refine cr_S (As := [.int d, .int 0, .int 20000]) (rest := []) hx hb hml hown hu hE (c_in l E d 0 20000) kX11_in u873 (trivial) ⟨Nat.le_of_ble_eq_true rfl, Nat.le_of_ble_eq_true rfl⟩ rfl hl.1 rfl (Nat.le_of_ble_eq_true rfl) ⟨Nat.le_of_ble_eq_true rfl, Nat.le_of_ble_eq_true rfl⟩ dX11_feast_5 ?_
  refine onB (fun b1 => ?_) (fun b1 => ?_)
  · refine lv_if_eq (tgt := 19) hx hb dX11_feast_8 (by decide) (fun c2 => absurd c2 (by decide)) (fun _ => ?_)
    refine lv_aload_n hx hb dX11_feast_11 rfl (lv_at hl 0 rfl) ?_
    refine lv_iload_n hx hb dX11_feast_12 rfl (lv_at hl 1 rfl) ?_
    refine cr_V (As := [.int d]) (rest := []) hx hb hml hown hu hE (c_isFree l E A σ M d) kX11_isFree u892 (md_obj hM) rfl rfl (⟨hM, hI, okD_of b1⟩) ⟨Nat.le_of_ble_eq_true rfl, Nat.le_of_ble_eq_true rfl⟩ rfl hl.1 rfl (Nat.le_of_ble_eq_true rfl) ⟨Nat.le_of_ble_eq_true rfl, Nat.le_of_ble_eq_true rfl⟩ dX11_feast_13 ?_
    refine onB (fun b3 => ?_) (fun b3 => ?_)
    · refine lv_if_ne (tgt := 21) hx hb dX11_feast_16 (by decide) (fun _ => ?_) (fun c4 => absurd c4 (by decide))
      refine lv_aload_n hx hb dX11_feast_21 rfl (lv_at hl 0 rfl) ?_
      refine rd_get (k := 16) (v := .ref (M 16)) hx hb hown hu hE ok12 (md_obj hM) (by decide) u773 (fun _ h => h) rfl dX11_feast_22 ?_
      refine lv_iload_n hx hb dX11_feast_25 rfl (lv_at hl 1 rfl) ?_
      refine lv_iconst (v := 1) hx hb dX11_feast_26 (by decide) ?_
      refine mr_stz hx hb hE hS hM (okD_in (okD_of b1)) dX11_feast_27 (fun H1 locs1 hM hS => ?_)
      refine lv_iconst (v := 1) hx hb dX11_feast_28 (by decide) ?_
      exact ct_rz hx hb hr hlocks hS (by (have hB : (!m_in d 0 20000 || !m_isFree σ d) = false := (by simp only [eq_self, b1, b3, Bool.not_true, Bool.not_false, Bool.and_true, Bool.true_and, Bool.and_false, Bool.false_and, Bool.or_true, Bool.true_or, Bool.or_false, Bool.false_or, Bool.and_self, Bool.or_self, eq_self, if_true, Bool.false_eq_true, if_false])); unfold m_feast; rw [hB]; exact ⟨rfl, hM⟩) (rfl) (Nat.le_of_ble_eq_true rfl) (Nat.le_of_ble_eq_true rfl) dX11_feast_29
    · refine lv_if_ne (tgt := 21) hx hb dX11_feast_16 (by decide) (fun c5 => absurd c5 (by decide)) (fun _ => ?_)
      refine lv_iconst (v := 0) hx hb dX11_feast_19 (by decide) ?_
      exact ct_rz hx hb hr hlocks hS (by (have hB : (!m_in d 0 20000 || !m_isFree σ d) = true := (by simp only [eq_self, b1, b3, Bool.not_true, Bool.not_false, Bool.and_true, Bool.true_and, Bool.and_false, Bool.false_and, Bool.or_true, Bool.true_or, Bool.or_false, Bool.false_or, Bool.and_self, Bool.or_self, eq_self, if_true, Bool.false_eq_true, if_false])); unfold m_feast; rw [hB]; exact ⟨rfl, hM⟩) (rfl) (Nat.le_of_ble_eq_true rfl) (Nat.le_of_ble_eq_true rfl) dX11_feast_20
  · refine lv_if_eq (tgt := 19) hx hb dX11_feast_8 (by decide) (fun _ => ?_) (fun c6 => absurd (by decide) c6)
    refine lv_iconst (v := 0) hx hb dX11_feast_19 (by decide) ?_
    exact ct_rz hx hb hr hlocks hS (by (have hB : (!m_in d 0 20000 || !m_isFree σ d) = true := (by simp only [eq_self, b1, Bool.not_true, Bool.not_false, Bool.and_true, Bool.true_and, Bool.and_false, Bool.false_and, Bool.or_true, Bool.true_or, Bool.or_false, Bool.false_or, Bool.and_self, Bool.or_self, eq_self, if_true, Bool.false_eq_true, if_false])); unfold m_feast; rw [hB]; exact ⟨rfl, hM⟩) (rfl) (Nat.le_of_ble_eq_true rfl) (Nat.le_of_ble_eq_true rfl) dX11_feast_20
set_option maxHeartbeats 1000000 in
set_option maxRecDepth 20000 in
theorem c_go (l : Launch) (E : EV) (A : Nat → Prop) (σ : St) (M : Nat → Nat) (n : Int32) : Ct l E yX11_go cX11_go 2 (some .int) 1 22 0 0 A [.ref (M 0), .int n] (fun H => Md E A σ M H ∧ InvM σ) (fun v H => v = some (.int (m_go σ n).1) ∧ Md E A (m_go σ n).2 M H) := by
  refine Ct.of (by decide +kernel) (Nat.le_of_ble_eq_true rfl) (fun pg ev s mi bel mth cd hx hb hr hml hown hu hlocks hnm hE hP hA hZ ls hl => ?_)
  have hl : lv_has ls 2 [(0, .ref (M 0)), (1, .int n)] := hl
  have hS : va_S A s.heap s.heap [] := va_S.rf
  obtain ⟨hM, hI⟩ := hP
  refine lv_iload_n hx hb dX11_go_0 rfl (lv_at hl 1 rfl) ?_
  refine lv_iconst (v := 0) hx hb dX11_go_1 (by decide) ?_
  refine lv_sipush (v := 400) hx hb dX11_go_2 (by decide) ?_
  refine cr_S (As := [.int n, .int 0, .int 400]) (rest := []) hx hb hml hown hu hE (c_in l E n 0 400) kX11_in u873 (trivial) ⟨Nat.le_of_ble_eq_true rfl, Nat.le_of_ble_eq_true rfl⟩ rfl hl.1 rfl (Nat.le_of_ble_eq_true rfl) ⟨Nat.le_of_ble_eq_true rfl, Nat.le_of_ble_eq_true rfl⟩ dX11_go_5 ?_
  refine onB (fun b1 => ?_) (fun b1 => ?_)
  · refine lv_if_ne (tgt := 13) hx hb dX11_go_8 (by decide) (fun _ => ?_) (fun c2 => absurd c2 (by decide))
    refine lv_aload_n hx hb dX11_go_13 rfl (lv_at hl 0 rfl) ?_
    refine lv_sipush (v := 20000) hx hb dX11_go_14 (by decide) ?_
    refine lv_aload_n hx hb dX11_go_17 rfl (lv_at hl 0 rfl) ?_
    refine rd_get (k := 0) (v := .int (σ 0 0)) hx hb hown hu hE ok12 (md_obj hM) (by decide) u757 (fun _ h => h) rfl dX11_go_18 ?_
    refine lv_iload_n hx hb dX11_go_21 rfl (lv_at hl 1 rfl) ?_
    refine lv_iadd hx hb dX11_go_22 ?_
    refine va_mmin hx hb (by rw [hml]; exact hl.1.symm) hown (hu _ u900) (hu _ u251) (hu _ u11) (hu _ u252) (Nat.le_of_ble_eq_true rfl) (Nat.le_of_ble_eq_true rfl) (Nat.le_of_ble_eq_true rfl) (Nat.le_of_ble_eq_true rfl) dX11_go_23 ?_
    refine mr_put (k := 0) (x := m_min 20000 ((σ 0 0) + n)) hx hb hown hu hE hS hM rfl (by decide) u757 rfl rfl rfl dX11_go_26 (fun H1 locs1 hM hS => ?_)
    refine lv_aload_n hx hb dX11_go_29 rfl (lv_at hl 0 rfl) ?_
    refine rd_get (k := 0) (v := .int (m_min 20000 ((σ 0 0) + n))) hx hb hown hu hE ok12 (md_obj hM) (by decide) u757 (fun _ h => h) rfl dX11_go_30 ?_
    exact ct_ri hx hb hr hlocks hS (by (have hB : (!m_in n 0 400) = false := (by simp only [eq_self, b1, Bool.not_true, Bool.not_false, Bool.and_true, Bool.true_and, Bool.and_false, Bool.false_and, Bool.or_true, Bool.true_or, Bool.or_false, Bool.false_or, Bool.and_self, Bool.or_self, eq_self, if_true, Bool.false_eq_true, if_false])); unfold m_go; rw [hB]; exact ⟨rfl, hM⟩) (Nat.le_of_ble_eq_true rfl) (Nat.le_of_ble_eq_true rfl) dX11_go_33
  · refine lv_if_ne (tgt := 13) hx hb dX11_go_8 (by decide) (fun c3 => absurd c3 (by decide)) (fun _ => ?_)
    refine lv_iconst (v := (-1)) hx hb dX11_go_11 (by decide) ?_
    exact ct_ri hx hb hr hlocks hS (by (have hB : (!m_in n 0 400) = true := (by simp only [eq_self, b1, Bool.not_true, Bool.not_false, Bool.and_true, Bool.true_and, Bool.and_false, Bool.false_and, Bool.or_true, Bool.true_or, Bool.or_false, Bool.false_or, Bool.and_self, Bool.or_self, eq_self, if_true, Bool.false_eq_true, if_false])); unfold m_go; rw [hB]; exact ⟨rfl, hM⟩) (Nat.le_of_ble_eq_true rfl) (Nat.le_of_ble_eq_true rfl) dX11_go_12
set_option maxHeartbeats 1000000 in
set_option maxRecDepth 20000 in
theorem c_withdraw (l : Launch) (E : EV) (A : Nat → Prop) (σ : St) (M : Nat → Nat) (n : Int32) : Ct l E yX11_withdraw cX11_withdraw 2 (some .boolean) 2 43 0 0 A [.ref (M 0), .int n] (fun H => Md E A σ M H ∧ InvM σ) (fun v H => v = some (.int (m_withdraw σ n).1) ∧ Md E A (m_withdraw σ n).2 M H) := by
  refine Ct.of (by decide +kernel) (Nat.le_of_ble_eq_true rfl) (fun pg ev s mi bel mth cd hx hb hr hml hown hu hlocks hnm hE hP hA hZ ls hl => ?_)
  have hl : lv_has ls 2 [(0, .ref (M 0)), (1, .int n)] := hl
  have hS : va_S A s.heap s.heap [] := va_S.rf
  obtain ⟨hM, hI⟩ := hP
  refine lv_aload_n hx hb dX11_withdraw_0 rfl (lv_at hl 0 rfl) ?_
  refine lv_iload_n hx hb dX11_withdraw_1 rfl (lv_at hl 1 rfl) ?_
  refine cr_V (As := [.int n]) (rest := []) hx hb hml hown hu hE (c_isNotice l E A σ M n) kX11_isNotice u957 (md_obj hM) rfl rfl (⟨hM, hI⟩) ⟨Nat.le_of_ble_eq_true rfl, Nat.le_of_ble_eq_true rfl⟩ rfl hl.1 rfl (Nat.le_of_ble_eq_true rfl) ⟨Nat.le_of_ble_eq_true rfl, Nat.le_of_ble_eq_true rfl⟩ dX11_withdraw_2 ?_
  refine onB (fun b1 => ?_) (fun b1 => ?_)
  · refine lv_if_eq (tgt := 17) hx hb dX11_withdraw_5 (by decide) (fun c2 => absurd c2 (by decide)) (fun _ => ?_)
    refine lv_aload_n hx hb dX11_withdraw_8 rfl (lv_at hl 0 rfl) ?_
    refine rd_get (k := 20) (v := .ref (M 20)) hx hb hown hu hE ok12 (md_obj hM) (by decide) u777 (fun _ h => h) rfl dX11_withdraw_9 ?_
    refine lv_iload_n hx hb dX11_withdraw_12 rfl (lv_at hl 1 rfl) ?_
    refine mr_ld (t := 20) hx hb hE hM rfl (by decide) (okN_in hI (isN_ok hI b1)) dX11_withdraw_13 ?_
    refine lv_if_eq (tgt := 19) hx hb dX11_withdraw_14 (by decide) (fun c3 => ?_) (fun c3 => ?_)
    · refine lv_aload_n hx hb dX11_withdraw_19 rfl (lv_at hl 0 rfl) ?_
      refine rd_get (k := 20) (v := .ref (M 20)) hx hb hown hu hE ok12 (md_obj hM) (by decide) u777 (fun _ h => h) rfl dX11_withdraw_20 ?_
      refine lv_iload_n hx hb dX11_withdraw_23 rfl (lv_at hl 1 rfl) ?_
      refine lv_iconst (v := 2) hx hb dX11_withdraw_24 (by decide) ?_
      refine mr_st (t := 20) hx hb hE hS hM rfl (by decide) (okN_in hI (isN_ok hI b1)) dX11_withdraw_25 (fun H1 locs1 hM hS => ?_)
      refine lv_aload_n hx hb dX11_withdraw_26 rfl (lv_at hl 0 rfl) ?_
      refine rd_get (k := 21) (v := .ref (M 21)) hx hb hown hu hE ok12 (md_obj hM) (by decide) u778 (fun _ h => h) rfl dX11_withdraw_27 ?_
      refine lv_iload_n hx hb dX11_withdraw_30 rfl (lv_at hl 1 rfl) ?_
      refine lv_iconst (v := (-1)) hx hb dX11_withdraw_31 (by decide) ?_
      refine mr_st (t := 21) hx hb hE hS hM rfl (by decide) (okN_in hI (isN_ok hI b1)) dX11_withdraw_32 (fun H1 locs1 hM hS => ?_)
      refine lv_aload_n hx hb dX11_withdraw_33 rfl (lv_at hl 0 rfl) ?_
      refine rd_get (k := 22) (v := .ref (M 22)) hx hb hown hu hE ok12 (md_obj hM) (by decide) u779 (fun _ h => h) rfl dX11_withdraw_34 ?_
      refine lv_iload_n hx hb dX11_withdraw_37 rfl (lv_at hl 1 rfl) ?_
      refine lv_iconst (v := (-1)) hx hb dX11_withdraw_38 (by decide) ?_
      refine mr_st (t := 22) hx hb hE hS hM rfl (by decide) (okN_in hI (isN_ok hI b1)) dX11_withdraw_39 (fun H1 locs1 hM hS => ?_)
      refine lv_iconst (v := 1) hx hb dX11_withdraw_40 (by decide) ?_
      exact ct_rz hx hb hr hlocks hS (by (have hB : (m_wdBad σ n) = false := (by simp only [m_wdBad, b1, decide_eq_true c3, Bool.not_true, Bool.not_false, Bool.and_true, Bool.true_and, Bool.and_false, Bool.false_and, Bool.or_true, Bool.true_or, Bool.or_false, Bool.false_or, Bool.and_self, Bool.or_self, eq_self, if_true, Bool.false_eq_true, if_false])); unfold m_withdraw; rw [hB]; exact ⟨rfl, hM⟩) (rfl) (Nat.le_of_ble_eq_true rfl) (Nat.le_of_ble_eq_true rfl) dX11_withdraw_41
    · refine lv_iconst (v := 0) hx hb dX11_withdraw_17 (by decide) ?_
      exact ct_rz hx hb hr hlocks hS (by (have hB : (m_wdBad σ n) = true := (by simp only [m_wdBad, b1, decide_eq_false c3, Bool.not_true, Bool.not_false, Bool.and_true, Bool.true_and, Bool.and_false, Bool.false_and, Bool.or_true, Bool.true_or, Bool.or_false, Bool.false_or, Bool.and_self, Bool.or_self, eq_self, if_true, Bool.false_eq_true, if_false])); unfold m_withdraw; rw [hB]; exact ⟨rfl, hM⟩) (rfl) (Nat.le_of_ble_eq_true rfl) (Nat.le_of_ble_eq_true rfl) dX11_withdraw_18
  · refine lv_if_eq (tgt := 17) hx hb dX11_withdraw_5 (by decide) (fun _ => ?_) (fun c4 => absurd (by decide) c4)
    refine lv_iconst (v := 0) hx hb dX11_withdraw_17 (by decide) ?_
    exact ct_rz hx hb hr hlocks hS (by (have hB : (m_wdBad σ n) = true := (by simp only [m_wdBad, b1, Bool.not_true, Bool.not_false, Bool.and_true, Bool.true_and, Bool.and_false, Bool.false_and, Bool.or_true, Bool.true_or, Bool.or_false, Bool.false_or, Bool.and_self, Bool.or_self, eq_self, if_true, Bool.false_eq_true, if_false])); unfold m_withdraw; rw [hB]; exact ⟨rfl, hM⟩) (rfl) (Nat.le_of_ble_eq_true rfl) (Nat.le_of_ble_eq_true rfl) dX11_withdraw_18
set_option maxHeartbeats 1000000 in
set_option maxRecDepth 20000 in
theorem c_judge (l : Launch) (E : EV) (A : Nat → Prop) (σ : St) (M : Nat → Nat) (o up : Int32) : Ct l E yX11_judge cX11_judge 3 (some .boolean) 1 22 0 0 A [.ref (M 0), .int o, .int up] (fun H => Md E A σ M H ∧ InvM σ) (fun v H => v = some (.int (m_judge σ o up).1) ∧ Md E A (m_judge σ o up).2 M H) := by
  refine Ct.of (by decide +kernel) (Nat.le_of_ble_eq_true rfl) (fun pg ev s mi bel mth cd hx hb hr hml hown hu hlocks hnm hE hP hA hZ ls hl => ?_)
  have hl : lv_has ls 3 [(0, .ref (M 0)), (1, .int o), (2, .int up)] := hl
  have hS : va_S A s.heap s.heap [] := va_S.rf
  obtain ⟨hM, hI⟩ := hP
  refine lv_iload_n hx hb dX11_judge_0 rfl (lv_at hl 1 rfl) ?_
  refine lv_iconst (v := 0) hx hb dX11_judge_1 (by decide) ?_
  refine lv_aload_n hx hb dX11_judge_2 rfl (lv_at hl 0 rfl) ?_
  refine rd_get (k := 26) (v := .int (σ 26 0)) hx hb hown hu hE ok12 (md_obj hM) (by decide) u783 (fun _ h => h) rfl dX11_judge_3 ?_
  refine lv_iconst (v := 1) hx hb dX11_judge_6 (by decide) ?_
  refine lv_isub hx hb dX11_judge_7 ?_
  refine cr_S (As := [.int o, .int 0, .int ((σ 26 0) - 1)]) (rest := []) hx hb hml hown hu hE (c_in l E o 0 ((σ 26 0) - 1)) kX11_in u873 (trivial) ⟨Nat.le_of_ble_eq_true rfl, Nat.le_of_ble_eq_true rfl⟩ rfl hl.1 rfl (Nat.le_of_ble_eq_true rfl) ⟨Nat.le_of_ble_eq_true rfl, Nat.le_of_ble_eq_true rfl⟩ dX11_judge_8 ?_
  refine onB (fun b1 => ?_) (fun b1 => ?_)
  · refine lv_if_eq (tgt := 23) hx hb dX11_judge_11 (by decide) (fun c2 => absurd c2 (by decide)) (fun _ => ?_)
    refine lv_aload_n hx hb dX11_judge_14 rfl (lv_at hl 0 rfl) ?_
    refine rd_get (k := 25) (v := .ref (M 25)) hx hb hown hu hE ok12 (md_obj hM) (by decide) u782 (fun _ h => h) rfl dX11_judge_15 ?_
    refine lv_iload_n hx hb dX11_judge_18 rfl (lv_at hl 1 rfl) ?_
    refine mr_ld (t := 25) hx hb hE hM rfl (by decide) (o_in hI b1) dX11_judge_19 ?_
    refine lv_if_eq (tgt := 25) hx hb dX11_judge_20 (by decide) (fun c3 => ?_) (fun c3 => ?_)
    · refine lv_aload_n hx hb dX11_judge_25 rfl (lv_at hl 0 rfl) ?_
      refine rd_get (k := 25) (v := .ref (M 25)) hx hb hown hu hE ok12 (md_obj hM) (by decide) u782 (fun _ h => h) rfl dX11_judge_26 ?_
      refine lv_iload_n hx hb dX11_judge_29 rfl (lv_at hl 1 rfl) ?_
      refine lv_iload_n hx hb dX11_judge_30 rfl (lv_at hl 2 rfl) ?_
      refine lv_if_eq (tgt := 38) hx hb dX11_judge_31 (by decide) (fun c4 => ?_) (fun c4 => ?_)
      · refine lv_iconst (v := 2) hx hb dX11_judge_38 (by decide) ?_
        refine mr_st (t := 25) hx hb hE hS hM rfl (by decide) (o_in hI b1) dX11_judge_39 (fun H1 locs1 hM hS => ?_)
        refine lv_iconst (v := 1) hx hb dX11_judge_40 (by decide) ?_
        exact ct_rz hx hb hr hlocks hS (by (have hB : (m_jdBad σ o) = false := (by simp only [m_jdBad, b1, decide_eq_true c3, decide_eq_true c4, Bool.not_true, Bool.not_false, Bool.and_true, Bool.true_and, Bool.and_false, Bool.false_and, Bool.or_true, Bool.true_or, Bool.or_false, Bool.false_or, Bool.and_self, Bool.or_self, eq_self, if_true, Bool.false_eq_true, if_false])); unfold m_judge; rw [hB]; refine ⟨rfl, ?_⟩; show Md E A (m_jdS σ o up) M _; unfold m_jdS; simp only [b1, decide_eq_true c3, decide_eq_true c4, Bool.not_true, Bool.not_false, Bool.and_true, Bool.true_and, Bool.and_false, Bool.false_and, Bool.or_true, Bool.true_or, Bool.or_false, Bool.false_or, Bool.and_self, Bool.or_self, eq_self, if_true, Bool.false_eq_true, if_false]; exact hM) (rfl) (Nat.le_of_ble_eq_true rfl) (Nat.le_of_ble_eq_true rfl) dX11_judge_41
      · refine lv_iconst (v := 1) hx hb dX11_judge_34 (by decide) ?_
        refine lv_goto (tgt := 39) hx hb dX11_judge_35 (by decide) ?_
        refine mr_st (t := 25) hx hb hE hS hM rfl (by decide) (o_in hI b1) dX11_judge_39 (fun H1 locs1 hM hS => ?_)
        refine lv_iconst (v := 1) hx hb dX11_judge_40 (by decide) ?_
        exact ct_rz hx hb hr hlocks hS (by (have hB : (m_jdBad σ o) = false := (by simp only [m_jdBad, b1, decide_eq_true c3, decide_eq_false c4, Bool.not_true, Bool.not_false, Bool.and_true, Bool.true_and, Bool.and_false, Bool.false_and, Bool.or_true, Bool.true_or, Bool.or_false, Bool.false_or, Bool.and_self, Bool.or_self, eq_self, if_true, Bool.false_eq_true, if_false])); unfold m_judge; rw [hB]; refine ⟨rfl, ?_⟩; show Md E A (m_jdS σ o up) M _; unfold m_jdS; simp only [b1, decide_eq_true c3, decide_eq_false c4, Bool.not_true, Bool.not_false, Bool.and_true, Bool.true_and, Bool.and_false, Bool.false_and, Bool.or_true, Bool.true_or, Bool.or_false, Bool.false_or, Bool.and_self, Bool.or_self, eq_self, if_true, Bool.false_eq_true, if_false]; exact hM) (rfl) (Nat.le_of_ble_eq_true rfl) (Nat.le_of_ble_eq_true rfl) dX11_judge_41
    · refine lv_iconst (v := 0) hx hb dX11_judge_23 (by decide) ?_
      exact ct_rz hx hb hr hlocks hS (by (have hB : (m_jdBad σ o) = true := (by simp only [m_jdBad, b1, decide_eq_false c3, Bool.not_true, Bool.not_false, Bool.and_true, Bool.true_and, Bool.and_false, Bool.false_and, Bool.or_true, Bool.true_or, Bool.or_false, Bool.false_or, Bool.and_self, Bool.or_self, eq_self, if_true, Bool.false_eq_true, if_false])); unfold m_judge; rw [hB]; exact ⟨rfl, hM⟩) (rfl) (Nat.le_of_ble_eq_true rfl) (Nat.le_of_ble_eq_true rfl) dX11_judge_24
  · refine lv_if_eq (tgt := 23) hx hb dX11_judge_11 (by decide) (fun _ => ?_) (fun c5 => absurd (by decide) c5)
    refine lv_iconst (v := 0) hx hb dX11_judge_23 (by decide) ?_
    exact ct_rz hx hb hr hlocks hS (by (have hB : (m_jdBad σ o) = true := (by simp only [m_jdBad, b1, Bool.not_true, Bool.not_false, Bool.and_true, Bool.true_and, Bool.and_false, Bool.false_and, Bool.or_true, Bool.true_or, Bool.or_false, Bool.false_or, Bool.and_self, Bool.or_self, eq_self, if_true, Bool.false_eq_true, if_false])); unfold m_judge; rw [hB]; exact ⟨rfl, hM⟩) (rfl) (Nat.le_of_ble_eq_true rfl) (Nat.le_of_ble_eq_true rfl) dX11_judge_24
set_option maxHeartbeats 1000000 in
set_option maxRecDepth 20000 in
theorem c_person (l : Launch) (E : EV) (A : Nat → Prop) (σ : St) (M : Nat → Nat) (wh bo fa mo : Int32) : Ct l E yX11_person cX11_person 8 (some .int) 2 43 0 0 A [.ref (M 0), .int wh, .int bo, .int fa, .int mo] (fun H => Md E A σ M H ∧ InvM σ) (fun v H => v = some (.int (m_person σ wh bo fa mo).1) ∧ Md E A (m_person σ wh bo fa mo).2 M H) := by
  refine Ct.of (by decide +kernel) (Nat.le_of_ble_eq_true rfl) (fun pg ev s mi bel mth cd hx hb hr hml hown hu hlocks hnm hE hP hA hZ ls hl => ?_)
  have hl : lv_has ls 8 [(0, .ref (M 0)), (1, .int wh), (2, .int bo), (3, .int fa), (4, .int mo)] := hl
  have hS : va_S A s.heap s.heap [] := va_S.rf
  obtain ⟨hM, hI⟩ := hP
  refine lv_iload_n hx hb dX11_person_0 rfl (lv_at hl 1 rfl) ?_
  refine lv_ldc (v := 1000000) hx hb hown (hu _ u871) dX11_person_1 ?_
  refine lv_idiv hx hb dX11_person_3 (by decide) ?_
  refine lv_istore (lv' := [(5, .int (wh / 1000000)), (0, .ref (M 0)), (1, .int wh), (2, .int bo), (3, .int fa), (4, .int mo)]) hx hb dX11_person_4 hl (by decide) rfl (fun ls hl => ?_)
  refine lv_iload_n hx hb dX11_person_6 rfl (lv_at hl 2 rfl) ?_
  refine lv_sipush (v := 10000) hx hb dX11_person_7 (by decide) ?_
  refine lv_idiv hx hb dX11_person_10 (by decide) ?_
  refine lv_bipush (v := 100) hx hb dX11_person_11 (by decide) ?_
  refine lv_irem hx hb dX11_person_13 (by decide) ?_
  refine lv_istore (lv' := [(6, .int (rm (wh / 10000) 100)), (5, .int (wh / 1000000)), (0, .ref (M 0)), (1, .int wh), (2, .int bo), (3, .int fa), (4, .int mo)]) hx hb dX11_person_14 hl (by decide) rfl (fun ls hl => ?_)
  refine lv_iload_n hx hb dX11_person_16 rfl (lv_at hl 3 rfl) ?_
  refine lv_sipush (v := 10000) hx hb dX11_person_17 (by decide) ?_
  refine lv_irem hx hb dX11_person_20 (by decide) ?_
  refine lv_istore (lv' := [(7, .int (rm wh 10000)), (6, .int (rm (wh / 10000) 100)), (5, .int (wh / 1000000)), (0, .ref (M 0)), (1, .int wh), (2, .int bo), (3, .int fa), (4, .int mo)]) hx hb dX11_person_21 hl (by decide) rfl (fun ls hl => ?_)
  refine lv_iload_n hx hb dX11_person_23 rfl (lv_at hl 4 rfl) ?_
  refine lv_if_lt (tgt := 89) hx hb dX11_person_24 (by decide) (fun c1 => ?_) (fun c1 => ?_)
  · refine lv_iconst (v := (-1)) hx hb dX11_person_89 (by decide) ?_
    exact ct_ri hx hb hr hlocks hS (by (have hB : (m_perBad σ wh bo fa mo || m_perBad2 σ fa mo) = true := (by simp only [m_perBad, m_perBad2, decide_eq_true c1, Bool.not_true, Bool.not_false, Bool.and_true, Bool.true_and, Bool.and_false, Bool.false_and, Bool.or_true, Bool.true_or, Bool.or_false, Bool.false_or, Bool.and_self, Bool.or_self, eq_self, if_true, Bool.false_eq_true, if_false])); unfold m_person; rw [hB]; exact ⟨rfl, hM⟩) (Nat.le_of_ble_eq_true rfl) (Nat.le_of_ble_eq_true rfl) dX11_person_90
  · refine lv_iload hx hb dX11_person_27 (lv_at hl 2 rfl) ?_
    refine lv_bipush (v := 6) hx hb dX11_person_29 (by decide) ?_
    refine lv_icmp_ge (tgt := 89) hx hb dX11_person_31 (by decide) (fun c2 => ?_) (fun c2 => ?_)
    · refine lv_iconst (v := (-1)) hx hb dX11_person_89 (by decide) ?_
      exact ct_ri hx hb hr hlocks hS (by (have hB : (m_perBad σ wh bo fa mo || m_perBad2 σ fa mo) = true := (by simp only [m_perBad, m_perBad2, decide_eq_false c1, decide_eq_false (Int32.not_lt.mpr c2), Bool.not_true, Bool.not_false, Bool.and_true, Bool.true_and, Bool.and_false, Bool.false_and, Bool.or_true, Bool.true_or, Bool.or_false, Bool.false_or, Bool.and_self, Bool.or_self, eq_self, if_true, Bool.false_eq_true, if_false])); unfold m_person; rw [hB]; exact ⟨rfl, hM⟩) (Nat.le_of_ble_eq_true rfl) (Nat.le_of_ble_eq_true rfl) dX11_person_90
    · refine lv_iload hx hb dX11_person_34 (lv_at hl 1 rfl) ?_
      refine lv_bipush (v := 31) hx hb dX11_person_36 (by decide) ?_
      refine lv_icmp_gt (tgt := 89) hx hb dX11_person_38 (by decide) (fun c3 => ?_) (fun c3 => ?_)
      · refine lv_iconst (v := (-1)) hx hb dX11_person_89 (by decide) ?_
        exact ct_ri hx hb hr hlocks hS (by (have hB : (m_perBad σ wh bo fa mo || m_perBad2 σ fa mo) = true := (by simp only [m_perBad, m_perBad2, decide_eq_false c1, decide_eq_true (Int32.not_le.mp c2), decide_eq_true c3, Bool.not_true, Bool.not_false, Bool.and_true, Bool.true_and, Bool.and_false, Bool.false_and, Bool.or_true, Bool.true_or, Bool.or_false, Bool.false_or, Bool.and_self, Bool.or_self, eq_self, if_true, Bool.false_eq_true, if_false])); unfold m_person; rw [hB]; exact ⟨rfl, hM⟩) (Nat.le_of_ble_eq_true rfl) (Nat.le_of_ble_eq_true rfl) dX11_person_90
      · refine lv_iload hx hb dX11_person_41 (lv_at hl 0 rfl) ?_
        refine lv_iconst (v := 1) hx hb dX11_person_43 (by decide) ?_
        refine lv_icmp_lt (tgt := 89) hx hb dX11_person_44 (by decide) (fun c4 => ?_) (fun c4 => ?_)
        · refine lv_iconst (v := (-1)) hx hb dX11_person_89 (by decide) ?_
          exact ct_ri hx hb hr hlocks hS (by (have hB : (m_perBad σ wh bo fa mo || m_perBad2 σ fa mo) = true := (by simp only [m_perBad, m_perBad2, decide_eq_false c1, decide_eq_true (Int32.not_le.mp c2), decide_eq_false c3, decide_eq_true c4, Bool.not_true, Bool.not_false, Bool.and_true, Bool.true_and, Bool.and_false, Bool.false_and, Bool.or_true, Bool.true_or, Bool.or_false, Bool.false_or, Bool.and_self, Bool.or_self, eq_self, if_true, Bool.false_eq_true, if_false])); unfold m_person; rw [hB]; exact ⟨rfl, hM⟩) (Nat.le_of_ble_eq_true rfl) (Nat.le_of_ble_eq_true rfl) dX11_person_90
        · refine lv_iload_n hx hb dX11_person_47 rfl (lv_at hl 5 rfl) ?_
          refine lv_sipush (v := (-30000)) hx hb dX11_person_48 (by decide) ?_
          refine lv_aload_n hx hb dX11_person_51 rfl (lv_at hl 3 rfl) ?_
          refine rd_get (k := 0) (v := .int (σ 0 0)) hx hb hown hu hE ok12 (md_obj hM) (by decide) u757 (fun _ h => h) rfl dX11_person_52 ?_
          refine cr_S (As := [.int bo, .int (-30000), .int (σ 0 0)]) (rest := []) hx hb hml hown hu hE (c_in l E bo (-30000) (σ 0 0)) kX11_in u873 (trivial) ⟨Nat.le_of_ble_eq_true rfl, Nat.le_of_ble_eq_true rfl⟩ rfl hl.1 rfl (Nat.le_of_ble_eq_true rfl) ⟨Nat.le_of_ble_eq_true rfl, Nat.le_of_ble_eq_true rfl⟩ dX11_person_55 ?_
          refine onB (fun b5 => ?_) (fun b5 => ?_)
          · refine lv_if_eq (tgt := 89) hx hb dX11_person_58 (by decide) (fun c6 => absurd c6 (by decide)) (fun _ => ?_)
            refine lv_iload_n hx hb dX11_person_61 rfl (lv_at hl 6 rfl) ?_
            refine lv_iconst (v := (-1)) hx hb dX11_person_62 (by decide) ?_
            refine lv_icmp_eq (tgt := 74) hx hb dX11_person_63 (by decide) (fun c7 => ?_) (fun c7 => ?_)
            · refine lv_iload hx hb dX11_person_74 (lv_at hl 7 rfl) ?_
              refine lv_iconst (v := (-1)) hx hb dX11_person_76 (by decide) ?_
              refine lv_icmp_eq (tgt := 91) hx hb dX11_person_77 (by decide) (fun c8 => ?_) (fun c8 => ?_)
              · refine lv_iload_n hx hb dX11_person_91 rfl (lv_at hl 6 rfl) ?_
                refine lv_iconst (v := (-1)) hx hb dX11_person_92 (by decide) ?_
                refine lv_icmp_eq (tgt := 102) hx hb dX11_person_93 (by decide) (fun _ => ?_) (fun c9 => absurd c7 c9)
                refine lv_aload_n hx hb dX11_person_102 rfl (lv_at hl 3 rfl) ?_
                refine rd_get (k := 11) (v := .int (σ 11 0)) hx hb hown hu hE ok12 (md_obj hM) (by decide) u768 (fun _ h => h) rfl dX11_person_103 ?_
                refine lv_bipush (v := 40) hx hb dX11_person_106 (by decide) ?_
                refine lv_icmp_ne (tgt := 113) hx hb dX11_person_108 (by decide) (fun c10 => ?_) (fun c10 => ?_)
                · refine lv_aload_n hx hb dX11_person_113 rfl (lv_at hl 3 rfl) ?_
                  refine rd_get (k := 4) (v := .ref (M 4)) hx hb hown hu hE ok12 (md_obj hM) (by decide) u761 (fun _ h => h) rfl dX11_person_114 ?_
                  refine lv_aload_n hx hb dX11_person_117 rfl (lv_at hl 3 rfl) ?_
                  refine rd_get (k := 11) (v := .int (σ 11 0)) hx hb hown hu hE ok12 (md_obj hM) (by decide) u768 (fun _ h => h) rfl dX11_person_118 ?_
                  refine lv_iload hx hb dX11_person_121 (lv_at hl 2 rfl) ?_
                  refine mr_st (t := 4) hx hb hE hS hM rfl (by decide) (cnt_in (N := 40) hI.1.2.2.1 rfl c10) dX11_person_123 (fun H1 locs1 hM hS => ?_)
                  refine lv_aload_n hx hb dX11_person_124 rfl (lv_at hl 3 rfl) ?_
                  refine rd_get (k := 8) (v := .ref (M 8)) hx hb hown hu hE ok12 (md_obj hM) (by decide) u765 (fun _ h => h) rfl dX11_person_125 ?_
                  refine lv_aload_n hx hb dX11_person_128 rfl (lv_at hl 3 rfl) ?_
                  refine rd_get (k := 11) (v := .int (σ 11 0)) hx hb hown hu hE ok12 (md_obj hM) (by decide) u768 (fun _ h => h) rfl dX11_person_129 ?_
                  refine lv_iload hx hb dX11_person_132 (lv_at hl 1 rfl) ?_
                  refine mr_st (t := 8) hx hb hE hS hM rfl (by decide) (cnt_in (N := 40) hI.1.2.2.1 rfl c10) dX11_person_134 (fun H1 locs1 hM hS => ?_)
                  refine lv_aload_n hx hb dX11_person_135 rfl (lv_at hl 3 rfl) ?_
                  refine rd_get (k := 9) (v := .ref (M 9)) hx hb hown hu hE ok12 (md_obj hM) (by decide) u766 (fun _ h => h) rfl dX11_person_136 ?_
                  refine lv_aload_n hx hb dX11_person_139 rfl (lv_at hl 3 rfl) ?_
                  refine rd_get (k := 11) (v := .int (σ 11 0)) hx hb hown hu hE ok12 (md_obj hM) (by decide) u768 (fun _ h => h) rfl dX11_person_140 ?_
                  refine lv_iload hx hb dX11_person_143 (lv_at hl 0 rfl) ?_
                  refine mr_st (t := 9) hx hb hE hS hM rfl (by decide) (cnt_in (N := 40) hI.1.2.2.1 rfl c10) dX11_person_145 (fun H1 locs1 hM hS => ?_)
                  refine lv_aload_n hx hb dX11_person_146 rfl (lv_at hl 3 rfl) ?_
                  refine rd_get (k := 5) (v := .ref (M 5)) hx hb hown hu hE ok12 (md_obj hM) (by decide) u762 (fun _ h => h) rfl dX11_person_147 ?_
                  refine lv_aload_n hx hb dX11_person_150 rfl (lv_at hl 3 rfl) ?_
                  refine rd_get (k := 11) (v := .int (σ 11 0)) hx hb hown hu hE ok12 (md_obj hM) (by decide) u768 (fun _ h => h) rfl dX11_person_151 ?_
                  refine lv_iload_n hx hb dX11_person_154 rfl (lv_at hl 5 rfl) ?_
                  refine mr_st (t := 5) hx hb hE hS hM rfl (by decide) (cnt_in (N := 40) hI.1.2.2.1 rfl c10) dX11_person_155 (fun H1 locs1 hM hS => ?_)
                  refine lv_aload_n hx hb dX11_person_156 rfl (lv_at hl 3 rfl) ?_
                  refine rd_get (k := 6) (v := .ref (M 6)) hx hb hown hu hE ok12 (md_obj hM) (by decide) u763 (fun _ h => h) rfl dX11_person_157 ?_
                  refine lv_aload_n hx hb dX11_person_160 rfl (lv_at hl 3 rfl) ?_
                  refine rd_get (k := 11) (v := .int (σ 11 0)) hx hb hown hu hE ok12 (md_obj hM) (by decide) u768 (fun _ h => h) rfl dX11_person_161 ?_
                  refine lv_iload_n hx hb dX11_person_164 rfl (lv_at hl 6 rfl) ?_
                  refine mr_st (t := 6) hx hb hE hS hM rfl (by decide) (cnt_in (N := 40) hI.1.2.2.1 rfl c10) dX11_person_165 (fun H1 locs1 hM hS => ?_)
                  refine lv_aload_n hx hb dX11_person_166 rfl (lv_at hl 3 rfl) ?_
                  refine rd_get (k := 7) (v := .ref (M 7)) hx hb hown hu hE ok12 (md_obj hM) (by decide) u764 (fun _ h => h) rfl dX11_person_167 ?_
                  refine lv_aload_n hx hb dX11_person_170 rfl (lv_at hl 3 rfl) ?_
                  refine rd_get (k := 11) (v := .int (σ 11 0)) hx hb hown hu hE ok12 (md_obj hM) (by decide) u768 (fun _ h => h) rfl dX11_person_171 ?_
                  refine lv_iload hx hb dX11_person_174 (lv_at hl 7 rfl) ?_
                  refine mr_st (t := 7) hx hb hE hS hM rfl (by decide) (cnt_in (N := 40) hI.1.2.2.1 rfl c10) dX11_person_176 (fun H1 locs1 hM hS => ?_)
                  refine lv_aload_n hx hb dX11_person_177 rfl (lv_at hl 3 rfl) ?_
                  refine rd_get (k := 10) (v := .ref (M 10)) hx hb hown hu hE ok12 (md_obj hM) (by decide) u767 (fun _ h => h) rfl dX11_person_178 ?_
                  refine lv_aload_n hx hb dX11_person_181 rfl (lv_at hl 3 rfl) ?_
                  refine rd_get (k := 11) (v := .int (σ 11 0)) hx hb hown hu hE ok12 (md_obj hM) (by decide) u768 (fun _ h => h) rfl dX11_person_182 ?_
                  refine lv_iconst (v := (-1)) hx hb dX11_person_185 (by decide) ?_
                  refine mr_st (t := 10) hx hb hE hS hM rfl (by decide) (cnt_in (N := 40) hI.1.2.2.1 rfl c10) dX11_person_186 (fun H1 locs1 hM hS => ?_)
                  refine lv_aload_n hx hb dX11_person_187 rfl (lv_at hl 3 rfl) ?_
                  refine lv_dup hx hb dX11_person_188 rfl ?_
                  refine rd_get (k := 11) (v := .int (σ 11 0)) hx hb hown hu hE ok12 (md_obj hM) (by decide) u768 (fun _ h => h) rfl dX11_person_189 ?_
                  refine lv_iconst (v := 1) hx hb dX11_person_192 (by decide) ?_
                  refine lv_iadd hx hb dX11_person_193 ?_
                  refine mr_put (k := 11) (x := (σ 11 0) + 1) hx hb hown hu hE hS hM rfl (by decide) u768 rfl rfl rfl dX11_person_194 (fun H1 locs1 hM hS => ?_)
                  refine lv_aload_n hx hb dX11_person_197 rfl (lv_at hl 3 rfl) ?_
                  refine rd_get (k := 11) (v := .int ((σ 11 0) + 1)) hx hb hown hu hE ok12 (md_obj hM) (by decide) u768 (fun _ h => h) rfl dX11_person_198 ?_
                  refine lv_iconst (v := 1) hx hb dX11_person_201 (by decide) ?_
                  refine lv_isub hx hb dX11_person_202 ?_
                  exact ct_ri hx hb hr hlocks hS (by (have hB : (m_perBad σ wh bo fa mo || m_perBad2 σ fa mo) = false := (by simp only [m_perBad, m_perBad2, decide_eq_false c1, decide_eq_true (Int32.not_le.mp c2), decide_eq_false c3, decide_eq_false c4, b5, decide_eq_true c7, decide_eq_true c8, decide_eq_false c10, Bool.not_true, Bool.not_false, Bool.and_true, Bool.true_and, Bool.and_false, Bool.false_and, Bool.or_true, Bool.true_or, Bool.or_false, Bool.false_or, Bool.and_self, Bool.or_self, eq_self, if_true, Bool.false_eq_true, if_false])); unfold m_person; rw [hB]; exact ⟨rfl, hM⟩) (Nat.le_of_ble_eq_true rfl) (Nat.le_of_ble_eq_true rfl) dX11_person_203
                · refine lv_iconst (v := (-1)) hx hb dX11_person_111 (by decide) ?_
                  exact ct_ri hx hb hr hlocks hS (by (have hB : (m_perBad σ wh bo fa mo || m_perBad2 σ fa mo) = true := (by simp only [m_perBad, m_perBad2, decide_eq_false c1, decide_eq_true (Int32.not_le.mp c2), decide_eq_false c3, decide_eq_false c4, b5, decide_eq_true c7, decide_eq_true c8, decide_eq_true c10, Bool.not_true, Bool.not_false, Bool.and_true, Bool.true_and, Bool.and_false, Bool.false_and, Bool.or_true, Bool.true_or, Bool.or_false, Bool.false_or, Bool.and_self, Bool.or_self, eq_self, if_true, Bool.false_eq_true, if_false])); unfold m_person; rw [hB]; exact ⟨rfl, hM⟩) (Nat.le_of_ble_eq_true rfl) (Nat.le_of_ble_eq_true rfl) dX11_person_112
              · refine lv_aload_n hx hb dX11_person_80 rfl (lv_at hl 3 rfl) ?_
                refine lv_iload hx hb dX11_person_81 (lv_at hl 7 rfl) ?_
                refine cr_V (As := [.int mo]) (rest := []) hx hb hml hown hu hE (c_isPerson l E A σ M mo) kX11_isPerson u880 (md_obj hM) rfl rfl (⟨hM, hI⟩) ⟨Nat.le_of_ble_eq_true rfl, Nat.le_of_ble_eq_true rfl⟩ rfl hl.1 rfl (Nat.le_of_ble_eq_true rfl) ⟨Nat.le_of_ble_eq_true rfl, Nat.le_of_ble_eq_true rfl⟩ dX11_person_83 ?_
                refine onB (fun b11 => ?_) (fun b11 => ?_)
                · refine lv_if_ne (tgt := 91) hx hb dX11_person_86 (by decide) (fun _ => ?_) (fun c12 => absurd c12 (by decide))
                  refine lv_iload_n hx hb dX11_person_91 rfl (lv_at hl 6 rfl) ?_
                  refine lv_iconst (v := (-1)) hx hb dX11_person_92 (by decide) ?_
                  refine lv_icmp_eq (tgt := 102) hx hb dX11_person_93 (by decide) (fun _ => ?_) (fun c13 => absurd c7 c13)
                  refine lv_aload_n hx hb dX11_person_102 rfl (lv_at hl 3 rfl) ?_
                  refine rd_get (k := 11) (v := .int (σ 11 0)) hx hb hown hu hE ok12 (md_obj hM) (by decide) u768 (fun _ h => h) rfl dX11_person_103 ?_
                  refine lv_bipush (v := 40) hx hb dX11_person_106 (by decide) ?_
                  refine lv_icmp_ne (tgt := 113) hx hb dX11_person_108 (by decide) (fun c14 => ?_) (fun c14 => ?_)
                  · refine lv_aload_n hx hb dX11_person_113 rfl (lv_at hl 3 rfl) ?_
                    refine rd_get (k := 4) (v := .ref (M 4)) hx hb hown hu hE ok12 (md_obj hM) (by decide) u761 (fun _ h => h) rfl dX11_person_114 ?_
                    refine lv_aload_n hx hb dX11_person_117 rfl (lv_at hl 3 rfl) ?_
                    refine rd_get (k := 11) (v := .int (σ 11 0)) hx hb hown hu hE ok12 (md_obj hM) (by decide) u768 (fun _ h => h) rfl dX11_person_118 ?_
                    refine lv_iload hx hb dX11_person_121 (lv_at hl 2 rfl) ?_
                    refine mr_st (t := 4) hx hb hE hS hM rfl (by decide) (cnt_in (N := 40) hI.1.2.2.1 rfl c14) dX11_person_123 (fun H1 locs1 hM hS => ?_)
                    refine lv_aload_n hx hb dX11_person_124 rfl (lv_at hl 3 rfl) ?_
                    refine rd_get (k := 8) (v := .ref (M 8)) hx hb hown hu hE ok12 (md_obj hM) (by decide) u765 (fun _ h => h) rfl dX11_person_125 ?_
                    refine lv_aload_n hx hb dX11_person_128 rfl (lv_at hl 3 rfl) ?_
                    refine rd_get (k := 11) (v := .int (σ 11 0)) hx hb hown hu hE ok12 (md_obj hM) (by decide) u768 (fun _ h => h) rfl dX11_person_129 ?_
                    refine lv_iload hx hb dX11_person_132 (lv_at hl 1 rfl) ?_
                    refine mr_st (t := 8) hx hb hE hS hM rfl (by decide) (cnt_in (N := 40) hI.1.2.2.1 rfl c14) dX11_person_134 (fun H1 locs1 hM hS => ?_)
                    refine lv_aload_n hx hb dX11_person_135 rfl (lv_at hl 3 rfl) ?_
                    refine rd_get (k := 9) (v := .ref (M 9)) hx hb hown hu hE ok12 (md_obj hM) (by decide) u766 (fun _ h => h) rfl dX11_person_136 ?_
                    refine lv_aload_n hx hb dX11_person_139 rfl (lv_at hl 3 rfl) ?_
                    refine rd_get (k := 11) (v := .int (σ 11 0)) hx hb hown hu hE ok12 (md_obj hM) (by decide) u768 (fun _ h => h) rfl dX11_person_140 ?_
                    refine lv_iload hx hb dX11_person_143 (lv_at hl 0 rfl) ?_
                    refine mr_st (t := 9) hx hb hE hS hM rfl (by decide) (cnt_in (N := 40) hI.1.2.2.1 rfl c14) dX11_person_145 (fun H1 locs1 hM hS => ?_)
                    refine lv_aload_n hx hb dX11_person_146 rfl (lv_at hl 3 rfl) ?_
                    refine rd_get (k := 5) (v := .ref (M 5)) hx hb hown hu hE ok12 (md_obj hM) (by decide) u762 (fun _ h => h) rfl dX11_person_147 ?_
                    refine lv_aload_n hx hb dX11_person_150 rfl (lv_at hl 3 rfl) ?_
                    refine rd_get (k := 11) (v := .int (σ 11 0)) hx hb hown hu hE ok12 (md_obj hM) (by decide) u768 (fun _ h => h) rfl dX11_person_151 ?_
                    refine lv_iload_n hx hb dX11_person_154 rfl (lv_at hl 5 rfl) ?_
                    refine mr_st (t := 5) hx hb hE hS hM rfl (by decide) (cnt_in (N := 40) hI.1.2.2.1 rfl c14) dX11_person_155 (fun H1 locs1 hM hS => ?_)
                    refine lv_aload_n hx hb dX11_person_156 rfl (lv_at hl 3 rfl) ?_
                    refine rd_get (k := 6) (v := .ref (M 6)) hx hb hown hu hE ok12 (md_obj hM) (by decide) u763 (fun _ h => h) rfl dX11_person_157 ?_
                    refine lv_aload_n hx hb dX11_person_160 rfl (lv_at hl 3 rfl) ?_
                    refine rd_get (k := 11) (v := .int (σ 11 0)) hx hb hown hu hE ok12 (md_obj hM) (by decide) u768 (fun _ h => h) rfl dX11_person_161 ?_
                    refine lv_iload_n hx hb dX11_person_164 rfl (lv_at hl 6 rfl) ?_
                    refine mr_st (t := 6) hx hb hE hS hM rfl (by decide) (cnt_in (N := 40) hI.1.2.2.1 rfl c14) dX11_person_165 (fun H1 locs1 hM hS => ?_)
                    refine lv_aload_n hx hb dX11_person_166 rfl (lv_at hl 3 rfl) ?_
                    refine rd_get (k := 7) (v := .ref (M 7)) hx hb hown hu hE ok12 (md_obj hM) (by decide) u764 (fun _ h => h) rfl dX11_person_167 ?_
                    refine lv_aload_n hx hb dX11_person_170 rfl (lv_at hl 3 rfl) ?_
                    refine rd_get (k := 11) (v := .int (σ 11 0)) hx hb hown hu hE ok12 (md_obj hM) (by decide) u768 (fun _ h => h) rfl dX11_person_171 ?_
                    refine lv_iload hx hb dX11_person_174 (lv_at hl 7 rfl) ?_
                    refine mr_st (t := 7) hx hb hE hS hM rfl (by decide) (cnt_in (N := 40) hI.1.2.2.1 rfl c14) dX11_person_176 (fun H1 locs1 hM hS => ?_)
                    refine lv_aload_n hx hb dX11_person_177 rfl (lv_at hl 3 rfl) ?_
                    refine rd_get (k := 10) (v := .ref (M 10)) hx hb hown hu hE ok12 (md_obj hM) (by decide) u767 (fun _ h => h) rfl dX11_person_178 ?_
                    refine lv_aload_n hx hb dX11_person_181 rfl (lv_at hl 3 rfl) ?_
                    refine rd_get (k := 11) (v := .int (σ 11 0)) hx hb hown hu hE ok12 (md_obj hM) (by decide) u768 (fun _ h => h) rfl dX11_person_182 ?_
                    refine lv_iconst (v := (-1)) hx hb dX11_person_185 (by decide) ?_
                    refine mr_st (t := 10) hx hb hE hS hM rfl (by decide) (cnt_in (N := 40) hI.1.2.2.1 rfl c14) dX11_person_186 (fun H1 locs1 hM hS => ?_)
                    refine lv_aload_n hx hb dX11_person_187 rfl (lv_at hl 3 rfl) ?_
                    refine lv_dup hx hb dX11_person_188 rfl ?_
                    refine rd_get (k := 11) (v := .int (σ 11 0)) hx hb hown hu hE ok12 (md_obj hM) (by decide) u768 (fun _ h => h) rfl dX11_person_189 ?_
                    refine lv_iconst (v := 1) hx hb dX11_person_192 (by decide) ?_
                    refine lv_iadd hx hb dX11_person_193 ?_
                    refine mr_put (k := 11) (x := (σ 11 0) + 1) hx hb hown hu hE hS hM rfl (by decide) u768 rfl rfl rfl dX11_person_194 (fun H1 locs1 hM hS => ?_)
                    refine lv_aload_n hx hb dX11_person_197 rfl (lv_at hl 3 rfl) ?_
                    refine rd_get (k := 11) (v := .int ((σ 11 0) + 1)) hx hb hown hu hE ok12 (md_obj hM) (by decide) u768 (fun _ h => h) rfl dX11_person_198 ?_
                    refine lv_iconst (v := 1) hx hb dX11_person_201 (by decide) ?_
                    refine lv_isub hx hb dX11_person_202 ?_
                    exact ct_ri hx hb hr hlocks hS (by (have hB : (m_perBad σ wh bo fa mo || m_perBad2 σ fa mo) = false := (by simp only [m_perBad, m_perBad2, decide_eq_false c1, decide_eq_true (Int32.not_le.mp c2), decide_eq_false c3, decide_eq_false c4, b5, decide_eq_true c7, decide_eq_false c8, b11, decide_eq_false c14, Bool.not_true, Bool.not_false, Bool.and_true, Bool.true_and, Bool.and_false, Bool.false_and, Bool.or_true, Bool.true_or, Bool.or_false, Bool.false_or, Bool.and_self, Bool.or_self, eq_self, if_true, Bool.false_eq_true, if_false])); unfold m_person; rw [hB]; exact ⟨rfl, hM⟩) (Nat.le_of_ble_eq_true rfl) (Nat.le_of_ble_eq_true rfl) dX11_person_203
                  · refine lv_iconst (v := (-1)) hx hb dX11_person_111 (by decide) ?_
                    exact ct_ri hx hb hr hlocks hS (by (have hB : (m_perBad σ wh bo fa mo || m_perBad2 σ fa mo) = true := (by simp only [m_perBad, m_perBad2, decide_eq_false c1, decide_eq_true (Int32.not_le.mp c2), decide_eq_false c3, decide_eq_false c4, b5, decide_eq_true c7, decide_eq_false c8, b11, decide_eq_true c14, Bool.not_true, Bool.not_false, Bool.and_true, Bool.true_and, Bool.and_false, Bool.false_and, Bool.or_true, Bool.true_or, Bool.or_false, Bool.false_or, Bool.and_self, Bool.or_self, eq_self, if_true, Bool.false_eq_true, if_false])); unfold m_person; rw [hB]; exact ⟨rfl, hM⟩) (Nat.le_of_ble_eq_true rfl) (Nat.le_of_ble_eq_true rfl) dX11_person_112
                · refine lv_if_ne (tgt := 91) hx hb dX11_person_86 (by decide) (fun c15 => absurd c15 (by decide)) (fun _ => ?_)
                  refine lv_iconst (v := (-1)) hx hb dX11_person_89 (by decide) ?_
                  exact ct_ri hx hb hr hlocks hS (by (have hB : (m_perBad σ wh bo fa mo || m_perBad2 σ fa mo) = true := (by simp only [m_perBad, m_perBad2, decide_eq_false c1, decide_eq_true (Int32.not_le.mp c2), decide_eq_false c3, decide_eq_false c4, b5, decide_eq_true c7, decide_eq_false c8, b11, Bool.not_true, Bool.not_false, Bool.and_true, Bool.true_and, Bool.and_false, Bool.false_and, Bool.or_true, Bool.true_or, Bool.or_false, Bool.false_or, Bool.and_self, Bool.or_self, eq_self, if_true, Bool.false_eq_true, if_false])); unfold m_person; rw [hB]; exact ⟨rfl, hM⟩) (Nat.le_of_ble_eq_true rfl) (Nat.le_of_ble_eq_true rfl) dX11_person_90
            · refine lv_aload_n hx hb dX11_person_66 rfl (lv_at hl 3 rfl) ?_
              refine lv_iload_n hx hb dX11_person_67 rfl (lv_at hl 6 rfl) ?_
              refine cr_V (As := [.int fa]) (rest := []) hx hb hml hown hu hE (c_isPerson l E A σ M fa) kX11_isPerson u880 (md_obj hM) rfl rfl (⟨hM, hI⟩) ⟨Nat.le_of_ble_eq_true rfl, Nat.le_of_ble_eq_true rfl⟩ rfl hl.1 rfl (Nat.le_of_ble_eq_true rfl) ⟨Nat.le_of_ble_eq_true rfl, Nat.le_of_ble_eq_true rfl⟩ dX11_person_68 ?_
              refine onB (fun b16 => ?_) (fun b16 => ?_)
              · refine lv_if_eq (tgt := 89) hx hb dX11_person_71 (by decide) (fun c17 => absurd c17 (by decide)) (fun _ => ?_)
                refine lv_iload hx hb dX11_person_74 (lv_at hl 7 rfl) ?_
                refine lv_iconst (v := (-1)) hx hb dX11_person_76 (by decide) ?_
                refine lv_icmp_eq (tgt := 91) hx hb dX11_person_77 (by decide) (fun c18 => ?_) (fun c18 => ?_)
                · refine lv_iload_n hx hb dX11_person_91 rfl (lv_at hl 6 rfl) ?_
                  refine lv_iconst (v := (-1)) hx hb dX11_person_92 (by decide) ?_
                  refine lv_icmp_eq (tgt := 102) hx hb dX11_person_93 (by decide) (fun c19 => absurd c19 c7) (fun _ => ?_)
                  refine lv_iload_n hx hb dX11_person_96 rfl (lv_at hl 6 rfl) ?_
                  refine lv_iload hx hb dX11_person_97 (lv_at hl 7 rfl) ?_
                  refine lv_icmp_eq (tgt := 111) hx hb dX11_person_99 (by decide) (fun c20 => ?_) (fun c20 => ?_)
                  · refine lv_iconst (v := (-1)) hx hb dX11_person_111 (by decide) ?_
                    exact ct_ri hx hb hr hlocks hS (by (have hB : (m_perBad σ wh bo fa mo || m_perBad2 σ fa mo) = true := (by simp only [m_perBad, m_perBad2, decide_eq_false c1, decide_eq_true (Int32.not_le.mp c2), decide_eq_false c3, decide_eq_false c4, b5, decide_eq_false c7, b16, decide_eq_true c18, decide_eq_true c20, Bool.not_true, Bool.not_false, Bool.and_true, Bool.true_and, Bool.and_false, Bool.false_and, Bool.or_true, Bool.true_or, Bool.or_false, Bool.false_or, Bool.and_self, Bool.or_self, eq_self, if_true, Bool.false_eq_true, if_false])); unfold m_person; rw [hB]; exact ⟨rfl, hM⟩) (Nat.le_of_ble_eq_true rfl) (Nat.le_of_ble_eq_true rfl) dX11_person_112
                  · refine lv_aload_n hx hb dX11_person_102 rfl (lv_at hl 3 rfl) ?_
                    refine rd_get (k := 11) (v := .int (σ 11 0)) hx hb hown hu hE ok12 (md_obj hM) (by decide) u768 (fun _ h => h) rfl dX11_person_103 ?_
                    refine lv_bipush (v := 40) hx hb dX11_person_106 (by decide) ?_
                    refine lv_icmp_ne (tgt := 113) hx hb dX11_person_108 (by decide) (fun c21 => ?_) (fun c21 => ?_)
                    · refine lv_aload_n hx hb dX11_person_113 rfl (lv_at hl 3 rfl) ?_
                      refine rd_get (k := 4) (v := .ref (M 4)) hx hb hown hu hE ok12 (md_obj hM) (by decide) u761 (fun _ h => h) rfl dX11_person_114 ?_
                      refine lv_aload_n hx hb dX11_person_117 rfl (lv_at hl 3 rfl) ?_
                      refine rd_get (k := 11) (v := .int (σ 11 0)) hx hb hown hu hE ok12 (md_obj hM) (by decide) u768 (fun _ h => h) rfl dX11_person_118 ?_
                      refine lv_iload hx hb dX11_person_121 (lv_at hl 2 rfl) ?_
                      refine mr_st (t := 4) hx hb hE hS hM rfl (by decide) (cnt_in (N := 40) hI.1.2.2.1 rfl c21) dX11_person_123 (fun H1 locs1 hM hS => ?_)
                      refine lv_aload_n hx hb dX11_person_124 rfl (lv_at hl 3 rfl) ?_
                      refine rd_get (k := 8) (v := .ref (M 8)) hx hb hown hu hE ok12 (md_obj hM) (by decide) u765 (fun _ h => h) rfl dX11_person_125 ?_
                      refine lv_aload_n hx hb dX11_person_128 rfl (lv_at hl 3 rfl) ?_
                      refine rd_get (k := 11) (v := .int (σ 11 0)) hx hb hown hu hE ok12 (md_obj hM) (by decide) u768 (fun _ h => h) rfl dX11_person_129 ?_
                      refine lv_iload hx hb dX11_person_132 (lv_at hl 1 rfl) ?_
                      refine mr_st (t := 8) hx hb hE hS hM rfl (by decide) (cnt_in (N := 40) hI.1.2.2.1 rfl c21) dX11_person_134 (fun H1 locs1 hM hS => ?_)
                      refine lv_aload_n hx hb dX11_person_135 rfl (lv_at hl 3 rfl) ?_
                      refine rd_get (k := 9) (v := .ref (M 9)) hx hb hown hu hE ok12 (md_obj hM) (by decide) u766 (fun _ h => h) rfl dX11_person_136 ?_
                      refine lv_aload_n hx hb dX11_person_139 rfl (lv_at hl 3 rfl) ?_
                      refine rd_get (k := 11) (v := .int (σ 11 0)) hx hb hown hu hE ok12 (md_obj hM) (by decide) u768 (fun _ h => h) rfl dX11_person_140 ?_
                      refine lv_iload hx hb dX11_person_143 (lv_at hl 0 rfl) ?_
                      refine mr_st (t := 9) hx hb hE hS hM rfl (by decide) (cnt_in (N := 40) hI.1.2.2.1 rfl c21) dX11_person_145 (fun H1 locs1 hM hS => ?_)
                      refine lv_aload_n hx hb dX11_person_146 rfl (lv_at hl 3 rfl) ?_
                      refine rd_get (k := 5) (v := .ref (M 5)) hx hb hown hu hE ok12 (md_obj hM) (by decide) u762 (fun _ h => h) rfl dX11_person_147 ?_
                      refine lv_aload_n hx hb dX11_person_150 rfl (lv_at hl 3 rfl) ?_
                      refine rd_get (k := 11) (v := .int (σ 11 0)) hx hb hown hu hE ok12 (md_obj hM) (by decide) u768 (fun _ h => h) rfl dX11_person_151 ?_
                      refine lv_iload_n hx hb dX11_person_154 rfl (lv_at hl 5 rfl) ?_
                      refine mr_st (t := 5) hx hb hE hS hM rfl (by decide) (cnt_in (N := 40) hI.1.2.2.1 rfl c21) dX11_person_155 (fun H1 locs1 hM hS => ?_)
                      refine lv_aload_n hx hb dX11_person_156 rfl (lv_at hl 3 rfl) ?_
                      refine rd_get (k := 6) (v := .ref (M 6)) hx hb hown hu hE ok12 (md_obj hM) (by decide) u763 (fun _ h => h) rfl dX11_person_157 ?_
                      refine lv_aload_n hx hb dX11_person_160 rfl (lv_at hl 3 rfl) ?_
                      refine rd_get (k := 11) (v := .int (σ 11 0)) hx hb hown hu hE ok12 (md_obj hM) (by decide) u768 (fun _ h => h) rfl dX11_person_161 ?_
                      refine lv_iload_n hx hb dX11_person_164 rfl (lv_at hl 6 rfl) ?_
                      refine mr_st (t := 6) hx hb hE hS hM rfl (by decide) (cnt_in (N := 40) hI.1.2.2.1 rfl c21) dX11_person_165 (fun H1 locs1 hM hS => ?_)
                      refine lv_aload_n hx hb dX11_person_166 rfl (lv_at hl 3 rfl) ?_
                      refine rd_get (k := 7) (v := .ref (M 7)) hx hb hown hu hE ok12 (md_obj hM) (by decide) u764 (fun _ h => h) rfl dX11_person_167 ?_
                      refine lv_aload_n hx hb dX11_person_170 rfl (lv_at hl 3 rfl) ?_
                      refine rd_get (k := 11) (v := .int (σ 11 0)) hx hb hown hu hE ok12 (md_obj hM) (by decide) u768 (fun _ h => h) rfl dX11_person_171 ?_
                      refine lv_iload hx hb dX11_person_174 (lv_at hl 7 rfl) ?_
                      refine mr_st (t := 7) hx hb hE hS hM rfl (by decide) (cnt_in (N := 40) hI.1.2.2.1 rfl c21) dX11_person_176 (fun H1 locs1 hM hS => ?_)
                      refine lv_aload_n hx hb dX11_person_177 rfl (lv_at hl 3 rfl) ?_
                      refine rd_get (k := 10) (v := .ref (M 10)) hx hb hown hu hE ok12 (md_obj hM) (by decide) u767 (fun _ h => h) rfl dX11_person_178 ?_
                      refine lv_aload_n hx hb dX11_person_181 rfl (lv_at hl 3 rfl) ?_
                      refine rd_get (k := 11) (v := .int (σ 11 0)) hx hb hown hu hE ok12 (md_obj hM) (by decide) u768 (fun _ h => h) rfl dX11_person_182 ?_
                      refine lv_iconst (v := (-1)) hx hb dX11_person_185 (by decide) ?_
                      refine mr_st (t := 10) hx hb hE hS hM rfl (by decide) (cnt_in (N := 40) hI.1.2.2.1 rfl c21) dX11_person_186 (fun H1 locs1 hM hS => ?_)
                      refine lv_aload_n hx hb dX11_person_187 rfl (lv_at hl 3 rfl) ?_
                      refine lv_dup hx hb dX11_person_188 rfl ?_
                      refine rd_get (k := 11) (v := .int (σ 11 0)) hx hb hown hu hE ok12 (md_obj hM) (by decide) u768 (fun _ h => h) rfl dX11_person_189 ?_
                      refine lv_iconst (v := 1) hx hb dX11_person_192 (by decide) ?_
                      refine lv_iadd hx hb dX11_person_193 ?_
                      refine mr_put (k := 11) (x := (σ 11 0) + 1) hx hb hown hu hE hS hM rfl (by decide) u768 rfl rfl rfl dX11_person_194 (fun H1 locs1 hM hS => ?_)
                      refine lv_aload_n hx hb dX11_person_197 rfl (lv_at hl 3 rfl) ?_
                      refine rd_get (k := 11) (v := .int ((σ 11 0) + 1)) hx hb hown hu hE ok12 (md_obj hM) (by decide) u768 (fun _ h => h) rfl dX11_person_198 ?_
                      refine lv_iconst (v := 1) hx hb dX11_person_201 (by decide) ?_
                      refine lv_isub hx hb dX11_person_202 ?_
                      exact ct_ri hx hb hr hlocks hS (by (have hB : (m_perBad σ wh bo fa mo || m_perBad2 σ fa mo) = false := (by simp only [m_perBad, m_perBad2, decide_eq_false c1, decide_eq_true (Int32.not_le.mp c2), decide_eq_false c3, decide_eq_false c4, b5, decide_eq_false c7, b16, decide_eq_true c18, decide_eq_false c20, decide_eq_false c21, Bool.not_true, Bool.not_false, Bool.and_true, Bool.true_and, Bool.and_false, Bool.false_and, Bool.or_true, Bool.true_or, Bool.or_false, Bool.false_or, Bool.and_self, Bool.or_self, eq_self, if_true, Bool.false_eq_true, if_false])); unfold m_person; rw [hB]; exact ⟨rfl, hM⟩) (Nat.le_of_ble_eq_true rfl) (Nat.le_of_ble_eq_true rfl) dX11_person_203
                    · refine lv_iconst (v := (-1)) hx hb dX11_person_111 (by decide) ?_
                      exact ct_ri hx hb hr hlocks hS (by (have hB : (m_perBad σ wh bo fa mo || m_perBad2 σ fa mo) = true := (by simp only [m_perBad, m_perBad2, decide_eq_false c1, decide_eq_true (Int32.not_le.mp c2), decide_eq_false c3, decide_eq_false c4, b5, decide_eq_false c7, b16, decide_eq_true c18, decide_eq_false c20, decide_eq_true c21, Bool.not_true, Bool.not_false, Bool.and_true, Bool.true_and, Bool.and_false, Bool.false_and, Bool.or_true, Bool.true_or, Bool.or_false, Bool.false_or, Bool.and_self, Bool.or_self, eq_self, if_true, Bool.false_eq_true, if_false])); unfold m_person; rw [hB]; exact ⟨rfl, hM⟩) (Nat.le_of_ble_eq_true rfl) (Nat.le_of_ble_eq_true rfl) dX11_person_112
                · refine lv_aload_n hx hb dX11_person_80 rfl (lv_at hl 3 rfl) ?_
                  refine lv_iload hx hb dX11_person_81 (lv_at hl 7 rfl) ?_
                  refine cr_V (As := [.int mo]) (rest := []) hx hb hml hown hu hE (c_isPerson l E A σ M mo) kX11_isPerson u880 (md_obj hM) rfl rfl (⟨hM, hI⟩) ⟨Nat.le_of_ble_eq_true rfl, Nat.le_of_ble_eq_true rfl⟩ rfl hl.1 rfl (Nat.le_of_ble_eq_true rfl) ⟨Nat.le_of_ble_eq_true rfl, Nat.le_of_ble_eq_true rfl⟩ dX11_person_83 ?_
                  refine onB (fun b22 => ?_) (fun b22 => ?_)
                  · refine lv_if_ne (tgt := 91) hx hb dX11_person_86 (by decide) (fun _ => ?_) (fun c23 => absurd c23 (by decide))
                    refine lv_iload_n hx hb dX11_person_91 rfl (lv_at hl 6 rfl) ?_
                    refine lv_iconst (v := (-1)) hx hb dX11_person_92 (by decide) ?_
                    refine lv_icmp_eq (tgt := 102) hx hb dX11_person_93 (by decide) (fun c24 => absurd c24 c7) (fun _ => ?_)
                    refine lv_iload_n hx hb dX11_person_96 rfl (lv_at hl 6 rfl) ?_
                    refine lv_iload hx hb dX11_person_97 (lv_at hl 7 rfl) ?_
                    refine lv_icmp_eq (tgt := 111) hx hb dX11_person_99 (by decide) (fun c25 => ?_) (fun c25 => ?_)
                    · refine lv_iconst (v := (-1)) hx hb dX11_person_111 (by decide) ?_
                      exact ct_ri hx hb hr hlocks hS (by (have hB : (m_perBad σ wh bo fa mo || m_perBad2 σ fa mo) = true := (by simp only [m_perBad, m_perBad2, decide_eq_false c1, decide_eq_true (Int32.not_le.mp c2), decide_eq_false c3, decide_eq_false c4, b5, decide_eq_false c7, b16, decide_eq_false c18, b22, decide_eq_true c25, Bool.not_true, Bool.not_false, Bool.and_true, Bool.true_and, Bool.and_false, Bool.false_and, Bool.or_true, Bool.true_or, Bool.or_false, Bool.false_or, Bool.and_self, Bool.or_self, eq_self, if_true, Bool.false_eq_true, if_false])); unfold m_person; rw [hB]; exact ⟨rfl, hM⟩) (Nat.le_of_ble_eq_true rfl) (Nat.le_of_ble_eq_true rfl) dX11_person_112
                    · refine lv_aload_n hx hb dX11_person_102 rfl (lv_at hl 3 rfl) ?_
                      refine rd_get (k := 11) (v := .int (σ 11 0)) hx hb hown hu hE ok12 (md_obj hM) (by decide) u768 (fun _ h => h) rfl dX11_person_103 ?_
                      refine lv_bipush (v := 40) hx hb dX11_person_106 (by decide) ?_
                      refine lv_icmp_ne (tgt := 113) hx hb dX11_person_108 (by decide) (fun c26 => ?_) (fun c26 => ?_)
                      · refine lv_aload_n hx hb dX11_person_113 rfl (lv_at hl 3 rfl) ?_
                        refine rd_get (k := 4) (v := .ref (M 4)) hx hb hown hu hE ok12 (md_obj hM) (by decide) u761 (fun _ h => h) rfl dX11_person_114 ?_
                        refine lv_aload_n hx hb dX11_person_117 rfl (lv_at hl 3 rfl) ?_
                        refine rd_get (k := 11) (v := .int (σ 11 0)) hx hb hown hu hE ok12 (md_obj hM) (by decide) u768 (fun _ h => h) rfl dX11_person_118 ?_
                        refine lv_iload hx hb dX11_person_121 (lv_at hl 2 rfl) ?_
                        refine mr_st (t := 4) hx hb hE hS hM rfl (by decide) (cnt_in (N := 40) hI.1.2.2.1 rfl c26) dX11_person_123 (fun H1 locs1 hM hS => ?_)
                        refine lv_aload_n hx hb dX11_person_124 rfl (lv_at hl 3 rfl) ?_
                        refine rd_get (k := 8) (v := .ref (M 8)) hx hb hown hu hE ok12 (md_obj hM) (by decide) u765 (fun _ h => h) rfl dX11_person_125 ?_
                        refine lv_aload_n hx hb dX11_person_128 rfl (lv_at hl 3 rfl) ?_
                        refine rd_get (k := 11) (v := .int (σ 11 0)) hx hb hown hu hE ok12 (md_obj hM) (by decide) u768 (fun _ h => h) rfl dX11_person_129 ?_
                        refine lv_iload hx hb dX11_person_132 (lv_at hl 1 rfl) ?_
                        refine mr_st (t := 8) hx hb hE hS hM rfl (by decide) (cnt_in (N := 40) hI.1.2.2.1 rfl c26) dX11_person_134 (fun H1 locs1 hM hS => ?_)
                        refine lv_aload_n hx hb dX11_person_135 rfl (lv_at hl 3 rfl) ?_
                        refine rd_get (k := 9) (v := .ref (M 9)) hx hb hown hu hE ok12 (md_obj hM) (by decide) u766 (fun _ h => h) rfl dX11_person_136 ?_
                        refine lv_aload_n hx hb dX11_person_139 rfl (lv_at hl 3 rfl) ?_
                        refine rd_get (k := 11) (v := .int (σ 11 0)) hx hb hown hu hE ok12 (md_obj hM) (by decide) u768 (fun _ h => h) rfl dX11_person_140 ?_
                        refine lv_iload hx hb dX11_person_143 (lv_at hl 0 rfl) ?_
                        refine mr_st (t := 9) hx hb hE hS hM rfl (by decide) (cnt_in (N := 40) hI.1.2.2.1 rfl c26) dX11_person_145 (fun H1 locs1 hM hS => ?_)
                        refine lv_aload_n hx hb dX11_person_146 rfl (lv_at hl 3 rfl) ?_
                        refine rd_get (k := 5) (v := .ref (M 5)) hx hb hown hu hE ok12 (md_obj hM) (by decide) u762 (fun _ h => h) rfl dX11_person_147 ?_
                        refine lv_aload_n hx hb dX11_person_150 rfl (lv_at hl 3 rfl) ?_
                        refine rd_get (k := 11) (v := .int (σ 11 0)) hx hb hown hu hE ok12 (md_obj hM) (by decide) u768 (fun _ h => h) rfl dX11_person_151 ?_
                        refine lv_iload_n hx hb dX11_person_154 rfl (lv_at hl 5 rfl) ?_
                        refine mr_st (t := 5) hx hb hE hS hM rfl (by decide) (cnt_in (N := 40) hI.1.2.2.1 rfl c26) dX11_person_155 (fun H1 locs1 hM hS => ?_)
                        refine lv_aload_n hx hb dX11_person_156 rfl (lv_at hl 3 rfl) ?_
                        refine rd_get (k := 6) (v := .ref (M 6)) hx hb hown hu hE ok12 (md_obj hM) (by decide) u763 (fun _ h => h) rfl dX11_person_157 ?_
                        refine lv_aload_n hx hb dX11_person_160 rfl (lv_at hl 3 rfl) ?_
                        refine rd_get (k := 11) (v := .int (σ 11 0)) hx hb hown hu hE ok12 (md_obj hM) (by decide) u768 (fun _ h => h) rfl dX11_person_161 ?_
                        refine lv_iload_n hx hb dX11_person_164 rfl (lv_at hl 6 rfl) ?_
                        refine mr_st (t := 6) hx hb hE hS hM rfl (by decide) (cnt_in (N := 40) hI.1.2.2.1 rfl c26) dX11_person_165 (fun H1 locs1 hM hS => ?_)
                        refine lv_aload_n hx hb dX11_person_166 rfl (lv_at hl 3 rfl) ?_
                        refine rd_get (k := 7) (v := .ref (M 7)) hx hb hown hu hE ok12 (md_obj hM) (by decide) u764 (fun _ h => h) rfl dX11_person_167 ?_
                        refine lv_aload_n hx hb dX11_person_170 rfl (lv_at hl 3 rfl) ?_
                        refine rd_get (k := 11) (v := .int (σ 11 0)) hx hb hown hu hE ok12 (md_obj hM) (by decide) u768 (fun _ h => h) rfl dX11_person_171 ?_
                        refine lv_iload hx hb dX11_person_174 (lv_at hl 7 rfl) ?_
                        refine mr_st (t := 7) hx hb hE hS hM rfl (by decide) (cnt_in (N := 40) hI.1.2.2.1 rfl c26) dX11_person_176 (fun H1 locs1 hM hS => ?_)
                        refine lv_aload_n hx hb dX11_person_177 rfl (lv_at hl 3 rfl) ?_
                        refine rd_get (k := 10) (v := .ref (M 10)) hx hb hown hu hE ok12 (md_obj hM) (by decide) u767 (fun _ h => h) rfl dX11_person_178 ?_
                        refine lv_aload_n hx hb dX11_person_181 rfl (lv_at hl 3 rfl) ?_
                        refine rd_get (k := 11) (v := .int (σ 11 0)) hx hb hown hu hE ok12 (md_obj hM) (by decide) u768 (fun _ h => h) rfl dX11_person_182 ?_
                        refine lv_iconst (v := (-1)) hx hb dX11_person_185 (by decide) ?_
                        refine mr_st (t := 10) hx hb hE hS hM rfl (by decide) (cnt_in (N := 40) hI.1.2.2.1 rfl c26) dX11_person_186 (fun H1 locs1 hM hS => ?_)
                        refine lv_aload_n hx hb dX11_person_187 rfl (lv_at hl 3 rfl) ?_
                        refine lv_dup hx hb dX11_person_188 rfl ?_
                        refine rd_get (k := 11) (v := .int (σ 11 0)) hx hb hown hu hE ok12 (md_obj hM) (by decide) u768 (fun _ h => h) rfl dX11_person_189 ?_
                        refine lv_iconst (v := 1) hx hb dX11_person_192 (by decide) ?_
                        refine lv_iadd hx hb dX11_person_193 ?_
                        refine mr_put (k := 11) (x := (σ 11 0) + 1) hx hb hown hu hE hS hM rfl (by decide) u768 rfl rfl rfl dX11_person_194 (fun H1 locs1 hM hS => ?_)
                        refine lv_aload_n hx hb dX11_person_197 rfl (lv_at hl 3 rfl) ?_
                        refine rd_get (k := 11) (v := .int ((σ 11 0) + 1)) hx hb hown hu hE ok12 (md_obj hM) (by decide) u768 (fun _ h => h) rfl dX11_person_198 ?_
                        refine lv_iconst (v := 1) hx hb dX11_person_201 (by decide) ?_
                        refine lv_isub hx hb dX11_person_202 ?_
                        exact ct_ri hx hb hr hlocks hS (by (have hB : (m_perBad σ wh bo fa mo || m_perBad2 σ fa mo) = false := (by simp only [m_perBad, m_perBad2, decide_eq_false c1, decide_eq_true (Int32.not_le.mp c2), decide_eq_false c3, decide_eq_false c4, b5, decide_eq_false c7, b16, decide_eq_false c18, b22, decide_eq_false c25, decide_eq_false c26, Bool.not_true, Bool.not_false, Bool.and_true, Bool.true_and, Bool.and_false, Bool.false_and, Bool.or_true, Bool.true_or, Bool.or_false, Bool.false_or, Bool.and_self, Bool.or_self, eq_self, if_true, Bool.false_eq_true, if_false])); unfold m_person; rw [hB]; exact ⟨rfl, hM⟩) (Nat.le_of_ble_eq_true rfl) (Nat.le_of_ble_eq_true rfl) dX11_person_203
                      · refine lv_iconst (v := (-1)) hx hb dX11_person_111 (by decide) ?_
                        exact ct_ri hx hb hr hlocks hS (by (have hB : (m_perBad σ wh bo fa mo || m_perBad2 σ fa mo) = true := (by simp only [m_perBad, m_perBad2, decide_eq_false c1, decide_eq_true (Int32.not_le.mp c2), decide_eq_false c3, decide_eq_false c4, b5, decide_eq_false c7, b16, decide_eq_false c18, b22, decide_eq_false c25, decide_eq_true c26, Bool.not_true, Bool.not_false, Bool.and_true, Bool.true_and, Bool.and_false, Bool.false_and, Bool.or_true, Bool.true_or, Bool.or_false, Bool.false_or, Bool.and_self, Bool.or_self, eq_self, if_true, Bool.false_eq_true, if_false])); unfold m_person; rw [hB]; exact ⟨rfl, hM⟩) (Nat.le_of_ble_eq_true rfl) (Nat.le_of_ble_eq_true rfl) dX11_person_112
                  · refine lv_if_ne (tgt := 91) hx hb dX11_person_86 (by decide) (fun c27 => absurd c27 (by decide)) (fun _ => ?_)
                    refine lv_iconst (v := (-1)) hx hb dX11_person_89 (by decide) ?_
                    exact ct_ri hx hb hr hlocks hS (by (have hB : (m_perBad σ wh bo fa mo || m_perBad2 σ fa mo) = true := (by simp only [m_perBad, m_perBad2, decide_eq_false c1, decide_eq_true (Int32.not_le.mp c2), decide_eq_false c3, decide_eq_false c4, b5, decide_eq_false c7, b16, decide_eq_false c18, b22, Bool.not_true, Bool.not_false, Bool.and_true, Bool.true_and, Bool.and_false, Bool.false_and, Bool.or_true, Bool.true_or, Bool.or_false, Bool.false_or, Bool.and_self, Bool.or_self, eq_self, if_true, Bool.false_eq_true, if_false])); unfold m_person; rw [hB]; exact ⟨rfl, hM⟩) (Nat.le_of_ble_eq_true rfl) (Nat.le_of_ble_eq_true rfl) dX11_person_90
              · refine lv_if_eq (tgt := 89) hx hb dX11_person_71 (by decide) (fun _ => ?_) (fun c28 => absurd (by decide) c28)
                refine lv_iconst (v := (-1)) hx hb dX11_person_89 (by decide) ?_
                exact ct_ri hx hb hr hlocks hS (by (have hB : (m_perBad σ wh bo fa mo || m_perBad2 σ fa mo) = true := (by simp only [m_perBad, m_perBad2, decide_eq_false c1, decide_eq_true (Int32.not_le.mp c2), decide_eq_false c3, decide_eq_false c4, b5, decide_eq_false c7, b16, Bool.not_true, Bool.not_false, Bool.and_true, Bool.true_and, Bool.and_false, Bool.false_and, Bool.or_true, Bool.true_or, Bool.or_false, Bool.false_or, Bool.and_self, Bool.or_self, eq_self, if_true, Bool.false_eq_true, if_false])); unfold m_person; rw [hB]; exact ⟨rfl, hM⟩) (Nat.le_of_ble_eq_true rfl) (Nat.le_of_ble_eq_true rfl) dX11_person_90
          · refine lv_if_eq (tgt := 89) hx hb dX11_person_58 (by decide) (fun _ => ?_) (fun c29 => absurd (by decide) c29)
            refine lv_iconst (v := (-1)) hx hb dX11_person_89 (by decide) ?_
            exact ct_ri hx hb hr hlocks hS (by (have hB : (m_perBad σ wh bo fa mo || m_perBad2 σ fa mo) = true := (by simp only [m_perBad, m_perBad2, decide_eq_false c1, decide_eq_true (Int32.not_le.mp c2), decide_eq_false c3, decide_eq_false c4, b5, Bool.not_true, Bool.not_false, Bool.and_true, Bool.true_and, Bool.and_false, Bool.false_and, Bool.or_true, Bool.true_or, Bool.or_false, Bool.false_or, Bool.and_self, Bool.or_self, eq_self, if_true, Bool.false_eq_true, if_false])); unfold m_person; rw [hB]; exact ⟨rfl, hM⟩) (Nat.le_of_ble_eq_true rfl) (Nat.le_of_ble_eq_true rfl) dX11_person_90
set_option maxHeartbeats 1000000 in
set_option maxRecDepth 20000 in
theorem c_law (l : Launch) (E : EV) (A : Nat → Prop) (σ : St) (M : Nat → Nat) (ld dy wt nt : Int32) : Ct l E yX11_law cX11_law 11 (some .boolean) 1 22 0 0 A [.ref (M 0), .int ld, .int dy, .int wt, .int nt] (fun H => Md E A σ M H ∧ InvM σ) (fun v H => v = some (.int (m_law σ ld dy wt nt).1) ∧ Md E A (m_law σ ld dy wt nt).2 M H) := by
  refine Ct.of (by decide +kernel) (Nat.le_of_ble_eq_true rfl) (fun pg ev s mi bel mth cd hx hb hr hml hown hu hlocks hnm hE hP hA hZ ls hl => ?_)
  have hl : lv_has ls 11 [(0, .ref (M 0)), (1, .int ld), (2, .int dy), (3, .int wt), (4, .int nt)] := hl
  have hS : va_S A s.heap s.heap [] := va_S.rf
  obtain ⟨hM, hI⟩ := hP
  refine lv_iload_n hx hb dX11_law_0 rfl (lv_at hl 3 rfl) ?_
  refine lv_ldc (v := 1000000) hx hb hown (hu _ u871) dX11_law_1 ?_
  refine lv_idiv hx hb dX11_law_3 (by decide) ?_
  refine lv_istore (lv' := [(5, .int (wt / 1000000)), (0, .ref (M 0)), (1, .int ld), (2, .int dy), (3, .int wt), (4, .int nt)]) hx hb dX11_law_4 hl (by decide) rfl (fun ls hl => ?_)
  refine lv_iload_n hx hb dX11_law_6 rfl (lv_at hl 4 rfl) ?_
  refine lv_ldc (v := 100000) hx hb hown (hu _ u872) dX11_law_7 ?_
  refine lv_idiv hx hb dX11_law_9 (by decide) ?_
  refine lv_bipush (v := 10) hx hb dX11_law_10 (by decide) ?_
  refine lv_irem hx hb dX11_law_12 (by decide) ?_
  refine lv_istore (lv' := [(6, .int (rm (wt / 100000) 10)), (5, .int (wt / 1000000)), (0, .ref (M 0)), (1, .int ld), (2, .int dy), (3, .int wt), (4, .int nt)]) hx hb dX11_law_13 hl (by decide) rfl (fun ls hl => ?_)
  refine lv_iload_n hx hb dX11_law_15 rfl (lv_at hl 5 rfl) ?_
  refine lv_sipush (v := 10000) hx hb dX11_law_16 (by decide) ?_
  refine lv_idiv hx hb dX11_law_19 (by decide) ?_
  refine lv_bipush (v := 10) hx hb dX11_law_20 (by decide) ?_
  refine lv_irem hx hb dX11_law_22 (by decide) ?_
  refine lv_istore (lv' := [(7, .int (rm (wt / 10000) 10)), (6, .int (rm (wt / 100000) 10)), (5, .int (wt / 1000000)), (0, .ref (M 0)), (1, .int ld), (2, .int dy), (3, .int wt), (4, .int nt)]) hx hb dX11_law_23 hl (by decide) rfl (fun ls hl => ?_)
  refine lv_iload_n hx hb dX11_law_25 rfl (lv_at hl 6 rfl) ?_
  refine lv_sipush (v := 1000) hx hb dX11_law_26 (by decide) ?_
  refine lv_idiv hx hb dX11_law_29 (by decide) ?_
  refine lv_bipush (v := 10) hx hb dX11_law_30 (by decide) ?_
  refine lv_irem hx hb dX11_law_32 (by decide) ?_
  refine lv_istore (lv' := [(8, .int (rm (wt / 1000) 10)), (7, .int (rm (wt / 10000) 10)), (6, .int (rm (wt / 100000) 10)), (5, .int (wt / 1000000)), (0, .ref (M 0)), (1, .int ld), (2, .int dy), (3, .int wt), (4, .int nt)]) hx hb dX11_law_33 hl (by decide) rfl (fun ls hl => ?_)
  refine lv_iload_n hx hb dX11_law_35 rfl (lv_at hl 7 rfl) ?_
  refine lv_sipush (v := 1000) hx hb dX11_law_36 (by decide) ?_
  refine lv_irem hx hb dX11_law_39 (by decide) ?_
  refine lv_istore (lv' := [(9, .int (rm wt 1000)), (8, .int (rm (wt / 1000) 10)), (7, .int (rm (wt / 10000) 10)), (6, .int (rm (wt / 100000) 10)), (5, .int (wt / 1000000)), (0, .ref (M 0)), (1, .int ld), (2, .int dy), (3, .int wt), (4, .int nt)]) hx hb dX11_law_40 hl (by decide) rfl (fun ls hl => ?_)
  refine lv_iload_n hx hb dX11_law_42 rfl (lv_at hl 6 rfl) ?_
  refine lv_iconst (v := 0) hx hb dX11_law_43 (by decide) ?_
  refine lv_iconst (v := 5) hx hb dX11_law_44 (by decide) ?_
  refine cr_S (As := [.int ld, .int 0, .int 5]) (rest := []) hx hb hml hown hu hE (c_in l E ld 0 5) kX11_in u873 (trivial) ⟨Nat.le_of_ble_eq_true rfl, Nat.le_of_ble_eq_true rfl⟩ rfl hl.1 rfl (Nat.le_of_ble_eq_true rfl) ⟨Nat.le_of_ble_eq_true rfl, Nat.le_of_ble_eq_true rfl⟩ dX11_law_45 ?_
  refine onB (fun b1 => ?_) (fun b1 => ?_)
  · refine lv_if_eq (tgt := 124) hx hb dX11_law_48 (by decide) (fun c2 => absurd c2 (by decide)) (fun _ => ?_)
    refine lv_iload_n hx hb dX11_law_51 rfl (lv_at hl 7 rfl) ?_
    refine lv_iconst (v := 0) hx hb dX11_law_52 (by decide) ?_
    refine lv_sipush (v := 20000) hx hb dX11_law_53 (by decide) ?_
    refine cr_S (As := [.int dy, .int 0, .int 20000]) (rest := []) hx hb hml hown hu hE (c_in l E dy 0 20000) kX11_in u873 (trivial) ⟨Nat.le_of_ble_eq_true rfl, Nat.le_of_ble_eq_true rfl⟩ rfl hl.1 rfl (Nat.le_of_ble_eq_true rfl) ⟨Nat.le_of_ble_eq_true rfl, Nat.le_of_ble_eq_true rfl⟩ dX11_law_56 ?_
    refine onB (fun b3 => ?_) (fun b3 => ?_)
    · refine lv_if_eq (tgt := 124) hx hb dX11_law_59 (by decide) (fun c4 => absurd c4 (by decide)) (fun _ => ?_)
      refine lv_iload_n hx hb dX11_law_62 rfl (lv_at hl 8 rfl) ?_
      refine lv_if_lt (tgt := 124) hx hb dX11_law_63 (by decide) (fun c5 => ?_) (fun c5 => ?_)
      · refine lv_iconst (v := 0) hx hb dX11_law_124 (by decide) ?_
        exact ct_rz hx hb hr hlocks hS (by (have hB : (m_lawBad σ ld dy wt nt) = true := (by simp only [m_lawBad, b1, b3, decide_eq_true c5, Bool.not_true, Bool.not_false, Bool.and_true, Bool.true_and, Bool.and_false, Bool.false_and, Bool.or_true, Bool.true_or, Bool.or_false, Bool.false_or, Bool.and_self, Bool.or_self, eq_self, if_true, Bool.false_eq_true, if_false])); unfold m_law; rw [hB]; exact ⟨rfl, hM⟩) (rfl) (Nat.le_of_ble_eq_true rfl) (Nat.le_of_ble_eq_true rfl) dX11_law_125
      · refine lv_iload hx hb dX11_law_66 (lv_at hl 4 rfl) ?_
        refine lv_bipush (v := 30) hx hb dX11_law_68 (by decide) ?_
        refine lv_icmp_gt (tgt := 124) hx hb dX11_law_70 (by decide) (fun c6 => ?_) (fun c6 => ?_)
        · refine lv_iconst (v := 0) hx hb dX11_law_124 (by decide) ?_
          exact ct_rz hx hb hr hlocks hS (by (have hB : (m_lawBad σ ld dy wt nt) = true := (by simp only [m_lawBad, b1, b3, decide_eq_false c5, decide_eq_true c6, Bool.not_true, Bool.not_false, Bool.and_true, Bool.true_and, Bool.and_false, Bool.false_and, Bool.or_true, Bool.true_or, Bool.or_false, Bool.false_or, Bool.and_self, Bool.or_self, eq_self, if_true, Bool.false_eq_true, if_false])); unfold m_law; rw [hB]; exact ⟨rfl, hM⟩) (rfl) (Nat.le_of_ble_eq_true rfl) (Nat.le_of_ble_eq_true rfl) dX11_law_125
        · refine lv_iload hx hb dX11_law_73 (lv_at hl 3 rfl) ?_
          refine lv_iconst (v := 3) hx hb dX11_law_75 (by decide) ?_
          refine lv_icmp_gt (tgt := 124) hx hb dX11_law_76 (by decide) (fun c7 => ?_) (fun c7 => ?_)
          · refine lv_iconst (v := 0) hx hb dX11_law_124 (by decide) ?_
            exact ct_rz hx hb hr hlocks hS (by (have hB : (m_lawBad σ ld dy wt nt) = true := (by simp only [m_lawBad, b1, b3, decide_eq_false c5, decide_eq_false c6, decide_eq_true c7, Bool.not_true, Bool.not_false, Bool.and_true, Bool.true_and, Bool.and_false, Bool.false_and, Bool.or_true, Bool.true_or, Bool.or_false, Bool.false_or, Bool.and_self, Bool.or_self, eq_self, if_true, Bool.false_eq_true, if_false])); unfold m_law; rw [hB]; exact ⟨rfl, hM⟩) (rfl) (Nat.le_of_ble_eq_true rfl) (Nat.le_of_ble_eq_true rfl) dX11_law_125
          · refine lv_iload hx hb dX11_law_79 (lv_at hl 2 rfl) ?_
            refine lv_bipush (v := 7) hx hb dX11_law_81 (by decide) ?_
            refine lv_icmp_gt (tgt := 124) hx hb dX11_law_83 (by decide) (fun c8 => ?_) (fun c8 => ?_)
            · refine lv_iconst (v := 0) hx hb dX11_law_124 (by decide) ?_
              exact ct_rz hx hb hr hlocks hS (by (have hB : (m_lawBad σ ld dy wt nt) = true := (by simp only [m_lawBad, b1, b3, decide_eq_false c5, decide_eq_false c6, decide_eq_false c7, decide_eq_true c8, Bool.not_true, Bool.not_false, Bool.and_true, Bool.true_and, Bool.and_false, Bool.false_and, Bool.or_true, Bool.true_or, Bool.or_false, Bool.false_or, Bool.and_self, Bool.or_self, eq_self, if_true, Bool.false_eq_true, if_false])); unfold m_law; rw [hB]; exact ⟨rfl, hM⟩) (rfl) (Nat.le_of_ble_eq_true rfl) (Nat.le_of_ble_eq_true rfl) dX11_law_125
            · refine lv_iload hx hb dX11_law_86 (lv_at hl 1 rfl) ?_
              refine lv_iconst (v := 2) hx hb dX11_law_88 (by decide) ?_
              refine lv_icmp_gt (tgt := 124) hx hb dX11_law_89 (by decide) (fun c9 => ?_) (fun c9 => ?_)
              · refine lv_iconst (v := 0) hx hb dX11_law_124 (by decide) ?_
                exact ct_rz hx hb hr hlocks hS (by (have hB : (m_lawBad σ ld dy wt nt) = true := (by simp only [m_lawBad, b1, b3, decide_eq_false c5, decide_eq_false c6, decide_eq_false c7, decide_eq_false c8, decide_eq_true c9, Bool.not_true, Bool.not_false, Bool.and_true, Bool.true_and, Bool.and_false, Bool.false_and, Bool.or_true, Bool.true_or, Bool.or_false, Bool.false_or, Bool.and_self, Bool.or_self, eq_self, if_true, Bool.false_eq_true, if_false])); unfold m_law; rw [hB]; exact ⟨rfl, hM⟩) (rfl) (Nat.le_of_ble_eq_true rfl) (Nat.le_of_ble_eq_true rfl) dX11_law_125
              · refine lv_iload hx hb dX11_law_92 (lv_at hl 0 rfl) ?_
                refine lv_iconst (v := 1) hx hb dX11_law_94 (by decide) ?_
                refine lv_sipush (v := 400) hx hb dX11_law_95 (by decide) ?_
                refine cr_S (As := [.int (rm wt 1000), .int 1, .int 400]) (rest := []) hx hb hml hown hu hE (c_in l E (rm wt 1000) 1 400) kX11_in u873 (trivial) ⟨Nat.le_of_ble_eq_true rfl, Nat.le_of_ble_eq_true rfl⟩ rfl hl.1 rfl (Nat.le_of_ble_eq_true rfl) ⟨Nat.le_of_ble_eq_true rfl, Nat.le_of_ble_eq_true rfl⟩ dX11_law_98 ?_
                refine onB (fun b10 => ?_) (fun b10 => ?_)
                · refine lv_if_eq (tgt := 124) hx hb dX11_law_101 (by decide) (fun c11 => absurd c11 (by decide)) (fun _ => ?_)
                  refine lv_iload hx hb dX11_law_104 (lv_at hl 9 rfl) ?_
                  refine lv_iconst (v := 0) hx hb dX11_law_106 (by decide) ?_
                  refine lv_bipush (v := 30) hx hb dX11_law_107 (by decide) ?_
                  refine cr_S (As := [.int nt, .int 0, .int 30]) (rest := []) hx hb hml hown hu hE (c_in l E nt 0 30) kX11_in u873 (trivial) ⟨Nat.le_of_ble_eq_true rfl, Nat.le_of_ble_eq_true rfl⟩ rfl hl.1 rfl (Nat.le_of_ble_eq_true rfl) ⟨Nat.le_of_ble_eq_true rfl, Nat.le_of_ble_eq_true rfl⟩ dX11_law_109 ?_
                  refine onB (fun b12 => ?_) (fun b12 => ?_)
                  · refine lv_if_eq (tgt := 124) hx hb dX11_law_112 (by decide) (fun c13 => absurd c13 (by decide)) (fun _ => ?_)
                    refine lv_aload_n hx hb dX11_law_115 rfl (lv_at hl 5 rfl) ?_
                    refine rd_get (k := 2) (v := .int (σ 2 0)) hx hb hown hu hE ok12 (md_obj hM) (by decide) u759 (fun _ h => h) rfl dX11_law_116 ?_
                    refine lv_bipush (v := 60) hx hb dX11_law_119 (by decide) ?_
                    refine lv_icmp_ne (tgt := 126) hx hb dX11_law_121 (by decide) (fun c14 => ?_) (fun c14 => ?_)
                    · refine lv_aload_n hx hb dX11_law_126 rfl (lv_at hl 5 rfl) ?_
                      refine rd_get (k := 1) (v := .ref (M 1)) hx hb hown hu hE ok12 (md_obj hM) (by decide) u758 (fun _ h => h) rfl dX11_law_127 ?_
                      refine lv_aload_n hx hb dX11_law_130 rfl (lv_at hl 5 rfl) ?_
                      refine rd_get (k := 2) (v := .int (σ 2 0)) hx hb hown hu hE ok12 (md_obj hM) (by decide) u759 (fun _ h => h) rfl dX11_law_131 ?_
                      refine mr_rl hx hb hE hM (cnt_in (N := 60) hI.1.2.1 rfl c14) dX11_law_134 ?_
                      refine lv_astore (lv' := [(10, .ref (M (100 + (σ 2 0).toNatClampNeg))), (9, .int (rm wt 1000)), (8, .int (rm (wt / 1000) 10)), (7, .int (rm (wt / 10000) 10)), (6, .int (rm (wt / 100000) 10)), (5, .int (wt / 1000000)), (0, .ref (M 0)), (1, .int ld), (2, .int dy), (3, .int wt), (4, .int nt)]) hx hb dX11_law_135 hl (by decide) rfl (fun ls hl => ?_)
                      refine lv_aload hx hb dX11_law_137 (lv_at hl 0 rfl) ?_
                      refine lv_iconst (v := 0) hx hb dX11_law_139 (by decide) ?_
                      refine lv_iload_n hx hb dX11_law_140 rfl (lv_at hl 7 rfl) ?_
                      refine mr_stl (jn := 0) hx hb hE hS hM (mint_l (vi_lt (cnt_in (N := 60) hI.1.2.1 rfl c14))) (by unfold vp_in; decide) rfl dX11_law_141 (fun H1 locs1 hM hS => ?_)
                      refine lv_aload hx hb dX11_law_142 (lv_at hl 0 rfl) ?_
                      refine lv_iconst (v := 1) hx hb dX11_law_144 (by decide) ?_
                      refine lv_iload_n hx hb dX11_law_145 rfl (lv_at hl 8 rfl) ?_
                      refine mr_stl (jn := 1) hx hb hE hS hM (mint_l (vi_lt (cnt_in (N := 60) hI.1.2.1 rfl c14))) (by unfold vp_in; decide) rfl dX11_law_146 (fun H1 locs1 hM hS => ?_)
                      refine lv_aload hx hb dX11_law_147 (lv_at hl 0 rfl) ?_
                      refine lv_iconst (v := 2) hx hb dX11_law_149 (by decide) ?_
                      refine lv_iload hx hb dX11_law_150 (lv_at hl 5 rfl) ?_
                      refine mr_stl (jn := 2) hx hb hE hS hM (mint_l (vi_lt (cnt_in (N := 60) hI.1.2.1 rfl c14))) (by unfold vp_in; decide) rfl dX11_law_152 (fun H1 locs1 hM hS => ?_)
                      refine lv_aload hx hb dX11_law_153 (lv_at hl 0 rfl) ?_
                      refine lv_iconst (v := 3) hx hb dX11_law_155 (by decide) ?_
                      refine lv_iload hx hb dX11_law_156 (lv_at hl 4 rfl) ?_
                      refine mr_stl (jn := 3) hx hb hE hS hM (mint_l (vi_lt (cnt_in (N := 60) hI.1.2.1 rfl c14))) (by unfold vp_in; decide) rfl dX11_law_158 (fun H1 locs1 hM hS => ?_)
                      refine lv_aload hx hb dX11_law_159 (lv_at hl 0 rfl) ?_
                      refine lv_iconst (v := 4) hx hb dX11_law_161 (by decide) ?_
                      refine lv_iload hx hb dX11_law_162 (lv_at hl 3 rfl) ?_
                      refine mr_stl (jn := 4) hx hb hE hS hM (mint_l (vi_lt (cnt_in (N := 60) hI.1.2.1 rfl c14))) (by unfold vp_in; decide) rfl dX11_law_164 (fun H1 locs1 hM hS => ?_)
                      refine lv_aload hx hb dX11_law_165 (lv_at hl 0 rfl) ?_
                      refine lv_iconst (v := 5) hx hb dX11_law_167 (by decide) ?_
                      refine lv_iload hx hb dX11_law_168 (lv_at hl 1 rfl) ?_
                      refine mr_stl (jn := 5) hx hb hE hS hM (mint_l (vi_lt (cnt_in (N := 60) hI.1.2.1 rfl c14))) (by unfold vp_in; decide) rfl dX11_law_170 (fun H1 locs1 hM hS => ?_)
                      refine lv_aload hx hb dX11_law_171 (lv_at hl 0 rfl) ?_
                      refine lv_bipush (v := 6) hx hb dX11_law_173 (by decide) ?_
                      refine lv_iload hx hb dX11_law_175 (lv_at hl 10 rfl) ?_
                      refine mr_stl (jn := 6) hx hb hE hS hM (mint_l (vi_lt (cnt_in (N := 60) hI.1.2.1 rfl c14))) (by unfold vp_in; decide) rfl dX11_law_177 (fun H1 locs1 hM hS => ?_)
                      refine lv_aload hx hb dX11_law_178 (lv_at hl 0 rfl) ?_
                      refine lv_bipush (v := 7) hx hb dX11_law_180 (by decide) ?_
                      refine lv_iload hx hb dX11_law_182 (lv_at hl 2 rfl) ?_
                      refine mr_stl (jn := 7) hx hb hE hS hM (mint_l (vi_lt (cnt_in (N := 60) hI.1.2.1 rfl c14))) (by unfold vp_in; decide) rfl dX11_law_184 (fun H1 locs1 hM hS => ?_)
                      refine lv_aload_n hx hb dX11_law_185 rfl (lv_at hl 6 rfl) ?_
                      refine lv_dup hx hb dX11_law_186 rfl ?_
                      refine rd_get (k := 2) (v := .int (σ 2 0)) hx hb hown hu hE ok12 (md_obj hM) (by decide) u759 (fun _ h => h) (by show some (Value.int _) = _; simp only [sA_lt (show 2 < 100 + (σ 2 0).toNatClampNeg by omega)]) dX11_law_187 ?_
                      refine lv_iconst (v := 1) hx hb dX11_law_190 (by decide) ?_
                      refine lv_iadd hx hb dX11_law_191 ?_
                      refine mr_put (k := 2) (x := (σ 2 0) + 1) hx hb hown hu hE hS hM rfl (by decide) u759 rfl rfl rfl dX11_law_192 (fun H1 locs1 hM hS => ?_)
                      refine lv_iconst (v := 1) hx hb dX11_law_195 (by decide) ?_
                      exact ct_rz hx hb hr hlocks hS (by (have hB : (m_lawBad σ ld dy wt nt) = false := (by simp only [m_lawBad, b1, b3, decide_eq_false c5, decide_eq_false c6, decide_eq_false c7, decide_eq_false c8, decide_eq_false c9, b10, b12, decide_eq_false c14, Bool.not_true, Bool.not_false, Bool.and_true, Bool.true_and, Bool.and_false, Bool.false_and, Bool.or_true, Bool.true_or, Bool.or_false, Bool.false_or, Bool.and_self, Bool.or_self, eq_self, if_true, Bool.false_eq_true, if_false])); unfold m_law; rw [hB]; exact ⟨rfl, hM⟩) (rfl) (Nat.le_of_ble_eq_true rfl) (Nat.le_of_ble_eq_true rfl) dX11_law_196
                    · refine lv_iconst (v := 0) hx hb dX11_law_124 (by decide) ?_
                      exact ct_rz hx hb hr hlocks hS (by (have hB : (m_lawBad σ ld dy wt nt) = true := (by simp only [m_lawBad, b1, b3, decide_eq_false c5, decide_eq_false c6, decide_eq_false c7, decide_eq_false c8, decide_eq_false c9, b10, b12, decide_eq_true c14, Bool.not_true, Bool.not_false, Bool.and_true, Bool.true_and, Bool.and_false, Bool.false_and, Bool.or_true, Bool.true_or, Bool.or_false, Bool.false_or, Bool.and_self, Bool.or_self, eq_self, if_true, Bool.false_eq_true, if_false])); unfold m_law; rw [hB]; exact ⟨rfl, hM⟩) (rfl) (Nat.le_of_ble_eq_true rfl) (Nat.le_of_ble_eq_true rfl) dX11_law_125
                  · refine lv_if_eq (tgt := 124) hx hb dX11_law_112 (by decide) (fun _ => ?_) (fun c15 => absurd (by decide) c15)
                    refine lv_iconst (v := 0) hx hb dX11_law_124 (by decide) ?_
                    exact ct_rz hx hb hr hlocks hS (by (have hB : (m_lawBad σ ld dy wt nt) = true := (by simp only [m_lawBad, b1, b3, decide_eq_false c5, decide_eq_false c6, decide_eq_false c7, decide_eq_false c8, decide_eq_false c9, b10, b12, Bool.not_true, Bool.not_false, Bool.and_true, Bool.true_and, Bool.and_false, Bool.false_and, Bool.or_true, Bool.true_or, Bool.or_false, Bool.false_or, Bool.and_self, Bool.or_self, eq_self, if_true, Bool.false_eq_true, if_false])); unfold m_law; rw [hB]; exact ⟨rfl, hM⟩) (rfl) (Nat.le_of_ble_eq_true rfl) (Nat.le_of_ble_eq_true rfl) dX11_law_125
                · refine lv_if_eq (tgt := 124) hx hb dX11_law_101 (by decide) (fun _ => ?_) (fun c16 => absurd (by decide) c16)
                  refine lv_iconst (v := 0) hx hb dX11_law_124 (by decide) ?_
                  exact ct_rz hx hb hr hlocks hS (by (have hB : (m_lawBad σ ld dy wt nt) = true := (by simp only [m_lawBad, b1, b3, decide_eq_false c5, decide_eq_false c6, decide_eq_false c7, decide_eq_false c8, decide_eq_false c9, b10, Bool.not_true, Bool.not_false, Bool.and_true, Bool.true_and, Bool.and_false, Bool.false_and, Bool.or_true, Bool.true_or, Bool.or_false, Bool.false_or, Bool.and_self, Bool.or_self, eq_self, if_true, Bool.false_eq_true, if_false])); unfold m_law; rw [hB]; exact ⟨rfl, hM⟩) (rfl) (Nat.le_of_ble_eq_true rfl) (Nat.le_of_ble_eq_true rfl) dX11_law_125
    · refine lv_if_eq (tgt := 124) hx hb dX11_law_59 (by decide) (fun _ => ?_) (fun c17 => absurd (by decide) c17)
      refine lv_iconst (v := 0) hx hb dX11_law_124 (by decide) ?_
      exact ct_rz hx hb hr hlocks hS (by (have hB : (m_lawBad σ ld dy wt nt) = true := (by simp only [m_lawBad, b1, b3, Bool.not_true, Bool.not_false, Bool.and_true, Bool.true_and, Bool.and_false, Bool.false_and, Bool.or_true, Bool.true_or, Bool.or_false, Bool.false_or, Bool.and_self, Bool.or_self, eq_self, if_true, Bool.false_eq_true, if_false])); unfold m_law; rw [hB]; exact ⟨rfl, hM⟩) (rfl) (Nat.le_of_ble_eq_true rfl) (Nat.le_of_ble_eq_true rfl) dX11_law_125
  · refine lv_if_eq (tgt := 124) hx hb dX11_law_48 (by decide) (fun _ => ?_) (fun c18 => absurd (by decide) c18)
    refine lv_iconst (v := 0) hx hb dX11_law_124 (by decide) ?_
    exact ct_rz hx hb hr hlocks hS (by (have hB : (m_lawBad σ ld dy wt nt) = true := (by simp only [m_lawBad, b1, Bool.not_true, Bool.not_false, Bool.and_true, Bool.true_and, Bool.and_false, Bool.false_and, Bool.or_true, Bool.true_or, Bool.or_false, Bool.false_or, Bool.and_self, Bool.or_self, eq_self, if_true, Bool.false_eq_true, if_false])); unfold m_law; rw [hB]; exact ⟨rfl, hM⟩) (rfl) (Nat.le_of_ble_eq_true rfl) (Nat.le_of_ble_eq_true rfl) dX11_law_125
set_option maxHeartbeats 1000000 in
set_option maxRecDepth 20000 in
theorem c_post (l : Launch) (E : EV) (A : Nat → Prop) (σ : St) (M : Nat → Nat) (a b : Int32) : Ct l E yX11_post cX11_post 4 (some .int) 2 43 0 0 A [.ref (M 0), .int a, .int b] (fun H => Md E A σ M H ∧ InvM σ) (fun v H => v = some (.int (m_post σ a b).1) ∧ Md E A (m_post σ a b).2 M H) := by
  refine Ct.of (by decide +kernel) (Nat.le_of_ble_eq_true rfl) (fun pg ev s mi bel mth cd hx hb hr hml hown hu hlocks hnm hE hP hA hZ ls hl => ?_)
  have hl : lv_has ls 4 [(0, .ref (M 0)), (1, .int a), (2, .int b)] := hl
  have hS : va_S A s.heap s.heap [] := va_S.rf
  obtain ⟨hM, hI⟩ := hP
  have hn := cnt_le (N := 60) hI.1.2.2.2.2.1
  have hc := cnt_nI hI.1.2.2.2.2.1
  refine lv_aload_n hx hb dX11_post_0 rfl (lv_at hl 0 rfl) ?_
  refine lv_iload_n hx hb dX11_post_1 rfl (lv_at hl 1 rfl) ?_
  refine cr_V (As := [.int a]) (rest := []) hx hb hml hown hu hE (c_isPerson l E A σ M a) kX11_isPerson u880 (md_obj hM) rfl rfl (⟨hM, hI⟩) ⟨Nat.le_of_ble_eq_true rfl, Nat.le_of_ble_eq_true rfl⟩ rfl hl.1 rfl (Nat.le_of_ble_eq_true rfl) ⟨Nat.le_of_ble_eq_true rfl, Nat.le_of_ble_eq_true rfl⟩ dX11_post_2 ?_
  refine onB (fun b1 => ?_) (fun b1 => ?_)
  · refine lv_if_eq (tgt := 50) hx hb dX11_post_5 (by decide) (fun c2 => absurd c2 (by decide)) (fun _ => ?_)
    refine lv_aload_n hx hb dX11_post_8 rfl (lv_at hl 0 rfl) ?_
    refine lv_iload_n hx hb dX11_post_9 rfl (lv_at hl 2 rfl) ?_
    refine cr_V (As := [.int b]) (rest := []) hx hb hml hown hu hE (c_isPerson l E A σ M b) kX11_isPerson u880 (md_obj hM) rfl rfl (⟨hM, hI⟩) ⟨Nat.le_of_ble_eq_true rfl, Nat.le_of_ble_eq_true rfl⟩ rfl hl.1 rfl (Nat.le_of_ble_eq_true rfl) ⟨Nat.le_of_ble_eq_true rfl, Nat.le_of_ble_eq_true rfl⟩ dX11_post_10 ?_
    refine onB (fun b3 => ?_) (fun b3 => ?_)
    · refine lv_if_eq (tgt := 50) hx hb dX11_post_13 (by decide) (fun c4 => absurd c4 (by decide)) (fun _ => ?_)
      refine lv_iload_n hx hb dX11_post_16 rfl (lv_at hl 1 rfl) ?_
      refine lv_iload_n hx hb dX11_post_17 rfl (lv_at hl 2 rfl) ?_
      refine lv_icmp_eq (tgt := 50) hx hb dX11_post_18 (by decide) (fun c5 => ?_) (fun c5 => ?_)
      · refine lv_iconst (v := (-1)) hx hb dX11_post_50 (by decide) ?_
        exact ct_ri hx hb hr hlocks hS (by (have hB : (m_postBad σ a b || m_poL σ a b (nn σ 23) 0) = true := (by simp only [m_postBad, b1, b3, decide_eq_true c5, Bool.not_true, Bool.not_false, Bool.and_true, Bool.true_and, Bool.and_false, Bool.false_and, Bool.or_true, Bool.true_or, Bool.or_false, Bool.false_or, Bool.and_self, Bool.or_self, eq_self, if_true, Bool.false_eq_true, if_false])); unfold m_post; rw [hB]; exact ⟨rfl, hM⟩) (Nat.le_of_ble_eq_true rfl) (Nat.le_of_ble_eq_true rfl) dX11_post_51
      · refine lv_aload_n hx hb dX11_post_21 rfl (lv_at hl 0 rfl) ?_
        refine rd_get (k := 10) (v := .ref (M 10)) hx hb hown hu hE ok12 (md_obj hM) (by decide) u767 (fun _ h => h) rfl dX11_post_22 ?_
        refine lv_iload_n hx hb dX11_post_25 rfl (lv_at hl 1 rfl) ?_
        refine mr_ld (t := 10) hx hb hE hM rfl (by decide) (okP_in hI (isP_ok hI b1)) dX11_post_26 ?_
        refine lv_iconst (v := (-1)) hx hb dX11_post_27 (by decide) ?_
        refine lv_icmp_ne (tgt := 50) hx hb dX11_post_28 (by decide) (fun c6 => ?_) (fun c6 => ?_)
        · refine lv_iconst (v := (-1)) hx hb dX11_post_50 (by decide) ?_
          exact ct_ri hx hb hr hlocks hS (by (have hB : (m_postBad σ a b || m_poL σ a b (nn σ 23) 0) = true := (by simp only [m_postBad, b1, b3, decide_eq_false c5, decide_eq_false c6, Bool.not_true, Bool.not_false, Bool.and_true, Bool.true_and, Bool.and_false, Bool.false_and, Bool.or_true, Bool.true_or, Bool.or_false, Bool.false_or, Bool.and_self, Bool.or_self, eq_self, if_true, Bool.false_eq_true, if_false])); unfold m_post; rw [hB]; exact ⟨rfl, hM⟩) (Nat.le_of_ble_eq_true rfl) (Nat.le_of_ble_eq_true rfl) dX11_post_51
        · refine lv_aload_n hx hb dX11_post_31 rfl (lv_at hl 0 rfl) ?_
          refine rd_get (k := 10) (v := .ref (M 10)) hx hb hown hu hE ok12 (md_obj hM) (by decide) u767 (fun _ h => h) rfl dX11_post_32 ?_
          refine lv_iload_n hx hb dX11_post_35 rfl (lv_at hl 2 rfl) ?_
          refine mr_ld (t := 10) hx hb hE hM rfl (by decide) (okP_in hI (isP_ok hI b3)) dX11_post_36 ?_
          refine lv_iconst (v := (-1)) hx hb dX11_post_37 (by decide) ?_
          refine lv_icmp_ne (tgt := 50) hx hb dX11_post_38 (by decide) (fun c7 => ?_) (fun c7 => ?_)
          · refine lv_iconst (v := (-1)) hx hb dX11_post_50 (by decide) ?_
            exact ct_ri hx hb hr hlocks hS (by (have hB : (m_postBad σ a b || m_poL σ a b (nn σ 23) 0) = true := (by simp only [m_postBad, b1, b3, decide_eq_false c5, decide_eq_true c6, decide_eq_false c7, Bool.not_true, Bool.not_false, Bool.and_true, Bool.true_and, Bool.and_false, Bool.false_and, Bool.or_true, Bool.true_or, Bool.or_false, Bool.false_or, Bool.and_self, Bool.or_self, eq_self, if_true, Bool.false_eq_true, if_false])); unfold m_post; rw [hB]; exact ⟨rfl, hM⟩) (Nat.le_of_ble_eq_true rfl) (Nat.le_of_ble_eq_true rfl) dX11_post_51
          · refine lv_aload_n hx hb dX11_post_41 rfl (lv_at hl 0 rfl) ?_
            refine rd_get (k := 23) (v := .int (σ 23 0)) hx hb hown hu hE ok12 (md_obj hM) (by decide) u780 (fun _ h => h) rfl dX11_post_42 ?_
            refine lv_bipush (v := 60) hx hb dX11_post_45 (by decide) ?_
            refine lv_icmp_ne (tgt := 52) hx hb dX11_post_47 (by decide) (fun c8 => ?_) (fun c8 => ?_)
            · refine lv_iconst (v := 0) hx hb dX11_post_52 (by decide) ?_
              refine lv_istore_n (lv' := [(3, .int 0), (0, .ref (M 0)), (1, .int a), (2, .int b)]) hx hb dX11_post_53 rfl hl (by decide) rfl (fun ls hl => ?_)
              obtain ⟨T, hT⟩ : ∃ z, z = m_poL σ a b (nn σ 23) 0 := ⟨_, rfl⟩
              have lo : ∀ (f k : Nat), (k + f = nn σ 23) → (m_poL σ a b f k = T) → (m_postBad σ a b = false) → (¬ σ 23 0 = 60) → ∀ (H1 : Heap) (locs1 : List Loc), Md E A σ M H1 → va_S A s.heap H1 locs1 → ∀ (ls : Array Slot), lv_has ls 4 [(0, .ref (M 0)), (1, .int a), (2, .int b), (3, .int (nI k))] → W pg l ev { frames := 2, cells := 0, slots := 0, locals := 43 } s mi [.ref (M 0), .int a, .int b].toArray bel mth cd H1 locs1 0 0 (QT bel s [.ref (M 0), .int a, .int b].toArray 0 0 A (fun v H => v = some (.int (m_post σ a b).1) ∧ Md E A (m_post σ a b).2 M H)) (F0 mi 54 ls []) := by
                intro f
                induction f with
                | zero =>
                  intro k hk hi h1 h60 H1 locs1 hM hS ls hl
                  refine lv_iload_n hx hb dX11_post_54 rfl (lv_at hl 3 rfl) ?_
                  refine lv_aload_n hx hb dX11_post_55 rfl (lv_at hl 0 rfl) ?_
                  refine rd_get (k := 23) (v := .int (σ 23 0)) hx hb hown hu hE ok12 (md_obj hM) (by decide) u780 (fun _ h => h) rfl dX11_post_56 ?_
                  refine lv_icmp_ge (tgt := 119) hx hb dX11_post_59 (by decide) (fun c9 => ?_) (fun c9 => absurd (by rw [hc]; exact nI_le (by omega) (by omega)) c9)
                  refine lv_aload_n hx hb dX11_post_119 rfl (lv_at hl 0 rfl) ?_
                  refine rd_get (k := 17) (v := .ref (M 17)) hx hb hown hu hE ok12 (md_obj hM) (by decide) u774 (fun _ h => h) rfl dX11_post_120 ?_
                  refine lv_aload_n hx hb dX11_post_123 rfl (lv_at hl 0 rfl) ?_
                  refine rd_get (k := 23) (v := .int (σ 23 0)) hx hb hown hu hE ok12 (md_obj hM) (by decide) u780 (fun _ h => h) rfl dX11_post_124 ?_
                  refine lv_iload_n hx hb dX11_post_127 rfl (lv_at hl 1 rfl) ?_
                  refine mr_st (t := 17) hx hb hE hS hM rfl (by decide) (cnt_in (N := 60) hI.1.2.2.2.2.1 rfl h60) dX11_post_128 (fun H1 locs1 hM hS => ?_)
                  refine lv_aload_n hx hb dX11_post_129 rfl (lv_at hl 0 rfl) ?_
                  refine rd_get (k := 18) (v := .ref (M 18)) hx hb hown hu hE ok12 (md_obj hM) (by decide) u775 (fun _ h => h) rfl dX11_post_130 ?_
                  refine lv_aload_n hx hb dX11_post_133 rfl (lv_at hl 0 rfl) ?_
                  refine rd_get (k := 23) (v := .int (σ 23 0)) hx hb hown hu hE ok12 (md_obj hM) (by decide) u780 (fun _ h => h) rfl dX11_post_134 ?_
                  refine lv_iload_n hx hb dX11_post_137 rfl (lv_at hl 2 rfl) ?_
                  refine mr_st (t := 18) hx hb hE hS hM rfl (by decide) (cnt_in (N := 60) hI.1.2.2.2.2.1 rfl h60) dX11_post_138 (fun H1 locs1 hM hS => ?_)
                  refine lv_aload_n hx hb dX11_post_139 rfl (lv_at hl 0 rfl) ?_
                  refine rd_get (k := 19) (v := .ref (M 19)) hx hb hown hu hE ok12 (md_obj hM) (by decide) u776 (fun _ h => h) rfl dX11_post_140 ?_
                  refine lv_aload_n hx hb dX11_post_143 rfl (lv_at hl 0 rfl) ?_
                  refine rd_get (k := 23) (v := .int (σ 23 0)) hx hb hown hu hE ok12 (md_obj hM) (by decide) u780 (fun _ h => h) rfl dX11_post_144 ?_
                  refine lv_aload_n hx hb dX11_post_147 rfl (lv_at hl 0 rfl) ?_
                  refine rd_get (k := 0) (v := .int (σ 0 0)) hx hb hown hu hE ok12 (md_obj hM) (by decide) u757 (fun _ h => h) rfl dX11_post_148 ?_
                  refine mr_st (t := 19) hx hb hE hS hM rfl (by decide) (cnt_in (N := 60) hI.1.2.2.2.2.1 rfl h60) dX11_post_151 (fun H1 locs1 hM hS => ?_)
                  refine lv_aload_n hx hb dX11_post_152 rfl (lv_at hl 0 rfl) ?_
                  refine rd_get (k := 21) (v := .ref (M 21)) hx hb hown hu hE ok12 (md_obj hM) (by decide) u778 (fun _ h => h) rfl dX11_post_153 ?_
                  refine lv_aload_n hx hb dX11_post_156 rfl (lv_at hl 0 rfl) ?_
                  refine rd_get (k := 23) (v := .int (σ 23 0)) hx hb hown hu hE ok12 (md_obj hM) (by decide) u780 (fun _ h => h) rfl dX11_post_157 ?_
                  refine lv_iconst (v := (-1)) hx hb dX11_post_160 (by decide) ?_
                  refine mr_st (t := 21) hx hb hE hS hM rfl (by decide) (cnt_in (N := 60) hI.1.2.2.2.2.1 rfl h60) dX11_post_161 (fun H1 locs1 hM hS => ?_)
                  refine lv_aload_n hx hb dX11_post_162 rfl (lv_at hl 0 rfl) ?_
                  refine rd_get (k := 22) (v := .ref (M 22)) hx hb hown hu hE ok12 (md_obj hM) (by decide) u779 (fun _ h => h) rfl dX11_post_163 ?_
                  refine lv_aload_n hx hb dX11_post_166 rfl (lv_at hl 0 rfl) ?_
                  refine rd_get (k := 23) (v := .int (σ 23 0)) hx hb hown hu hE ok12 (md_obj hM) (by decide) u780 (fun _ h => h) rfl dX11_post_167 ?_
                  refine lv_iconst (v := (-1)) hx hb dX11_post_170 (by decide) ?_
                  refine mr_st (t := 22) hx hb hE hS hM rfl (by decide) (cnt_in (N := 60) hI.1.2.2.2.2.1 rfl h60) dX11_post_171 (fun H1 locs1 hM hS => ?_)
                  refine lv_aload_n hx hb dX11_post_172 rfl (lv_at hl 0 rfl) ?_
                  refine lv_dup hx hb dX11_post_173 rfl ?_
                  refine rd_get (k := 23) (v := .int (σ 23 0)) hx hb hown hu hE ok12 (md_obj hM) (by decide) u780 (fun _ h => h) rfl dX11_post_174 ?_
                  refine lv_iconst (v := 1) hx hb dX11_post_177 (by decide) ?_
                  refine lv_iadd hx hb dX11_post_178 ?_
                  refine mr_put (k := 23) (x := (σ 23 0) + 1) hx hb hown hu hE hS hM rfl (by decide) u780 rfl rfl rfl dX11_post_179 (fun H1 locs1 hM hS => ?_)
                  refine lv_aload_n hx hb dX11_post_182 rfl (lv_at hl 0 rfl) ?_
                  refine rd_get (k := 23) (v := .int ((σ 23 0) + 1)) hx hb hown hu hE ok12 (md_obj hM) (by decide) u780 (fun _ h => h) rfl dX11_post_183 ?_
                  refine lv_iconst (v := 1) hx hb dX11_post_186 (by decide) ?_
                  refine lv_isub hx hb dX11_post_187 ?_
                  exact ct_ri hx hb hr hlocks hS (by (have hB : (m_postBad σ a b || m_poL σ a b (nn σ 23) 0) = false := (by simp only [m_poL] at hi; rw [h1, ← hT, ← hi]; rfl)); unfold m_post; rw [hB]; exact ⟨rfl, hM⟩) (Nat.le_of_ble_eq_true rfl) (Nat.le_of_ble_eq_true rfl) dX11_post_188
                | succ f ih =>
                  intro k hk hi h1 h60 H1 locs1 hM hS ls hl
                  refine lv_iload_n hx hb dX11_post_54 rfl (lv_at hl 3 rfl) ?_
                  refine lv_aload_n hx hb dX11_post_55 rfl (lv_at hl 0 rfl) ?_
                  refine rd_get (k := 23) (v := .int (σ 23 0)) hx hb hown hu hE ok12 (md_obj hM) (by decide) u780 (fun _ h => h) rfl dX11_post_56 ?_
                  refine lv_icmp_ge (tgt := 119) hx hb dX11_post_59 (by decide) (fun c10 => absurd c10 (by rw [hc]; exact nI_ge (by omega) (by omega))) (fun c10 => ?_)
                  refine lv_aload_n hx hb dX11_post_62 rfl (lv_at hl 0 rfl) ?_
                  refine rd_get (k := 20) (v := .ref (M 20)) hx hb hown hu hE ok12 (md_obj hM) (by decide) u777 (fun _ h => h) rfl dX11_post_63 ?_
                  refine lv_iload_n hx hb dX11_post_66 rfl (lv_at hl 3 rfl) ?_
                  refine mr_ld (t := 20) hx hb hE hM rfl (by decide) (vp_in_nI (N := 60) (by omega) (by decide)) dX11_post_67 ?_
                  refine lv_if_ne (tgt := 113) hx hb dX11_post_68 (by decide) (fun c11 => ?_) (fun c11 => ?_)
                  · refine lv_iinc (v := nI (k + 1)) (lv' := [(3, .int (nI (k + 1))), (0, .ref (M 0)), (1, .int a), (2, .int b)]) hx hb dX11_post_113 hl (k := 3) rfl (nI_1 k) (by decide) rfl (fun ls hl => ?_)
                    refine lv_goto (tgt := 54) hx hb dX11_post_116 (by decide) ?_
                    exact ih (k + 1) (by omega) (by simp only [m_poL, m_poC, decide_eq_false c11, Bool.not_true, Bool.not_false, Bool.and_true, Bool.true_and, Bool.and_false, Bool.false_and, Bool.or_true, Bool.true_or, Bool.or_false, Bool.false_or, Bool.and_self, Bool.or_self, eq_self, if_true, Bool.false_eq_true, if_false] at hi; exact hi) h1 h60 _ _ hM hS _ (lv_sub hl [1, 2, 3, 0] rfl)
                  · refine lv_aload_n hx hb dX11_post_71 rfl (lv_at hl 0 rfl) ?_
                    refine rd_get (k := 17) (v := .ref (M 17)) hx hb hown hu hE ok12 (md_obj hM) (by decide) u774 (fun _ h => h) rfl dX11_post_72 ?_
                    refine lv_iload_n hx hb dX11_post_75 rfl (lv_at hl 3 rfl) ?_
                    refine mr_ld (t := 17) hx hb hE hM rfl (by decide) (vp_in_nI (N := 60) (by omega) (by decide)) dX11_post_76 ?_
                    refine lv_iload_n hx hb dX11_post_77 rfl (lv_at hl 1 rfl) ?_
                    refine lv_icmp_ne (tgt := 91) hx hb dX11_post_78 (by decide) (fun c12 => ?_) (fun c12 => ?_)
                    · refine lv_aload_n hx hb dX11_post_91 rfl (lv_at hl 0 rfl) ?_
                      refine rd_get (k := 17) (v := .ref (M 17)) hx hb hown hu hE ok12 (md_obj hM) (by decide) u774 (fun _ h => h) rfl dX11_post_92 ?_
                      refine lv_iload_n hx hb dX11_post_95 rfl (lv_at hl 3 rfl) ?_
                      refine mr_ld (t := 17) hx hb hE hM rfl (by decide) (vp_in_nI (N := 60) (by omega) (by decide)) dX11_post_96 ?_
                      refine lv_iload_n hx hb dX11_post_97 rfl (lv_at hl 2 rfl) ?_
                      refine lv_icmp_ne (tgt := 113) hx hb dX11_post_98 (by decide) (fun c13 => ?_) (fun c13 => ?_)
                      · refine lv_iinc (v := nI (k + 1)) (lv' := [(3, .int (nI (k + 1))), (0, .ref (M 0)), (1, .int a), (2, .int b)]) hx hb dX11_post_113 hl (k := 3) rfl (nI_1 k) (by decide) rfl (fun ls hl => ?_)
                        refine lv_goto (tgt := 54) hx hb dX11_post_116 (by decide) ?_
                        exact ih (k + 1) (by omega) (by simp only [m_poL, m_poC, decide_eq_true c11, decide_eq_false c12, decide_eq_false c13, Bool.not_true, Bool.not_false, Bool.and_true, Bool.true_and, Bool.and_false, Bool.false_and, Bool.or_true, Bool.true_or, Bool.or_false, Bool.false_or, Bool.and_self, Bool.or_self, eq_self, if_true, Bool.false_eq_true, if_false] at hi; exact hi) h1 h60 _ _ hM hS _ (lv_sub hl [1, 2, 3, 0] rfl)
                      · refine lv_aload_n hx hb dX11_post_101 rfl (lv_at hl 0 rfl) ?_
                        refine rd_get (k := 18) (v := .ref (M 18)) hx hb hown hu hE ok12 (md_obj hM) (by decide) u775 (fun _ h => h) rfl dX11_post_102 ?_
                        refine lv_iload_n hx hb dX11_post_105 rfl (lv_at hl 3 rfl) ?_
                        refine mr_ld (t := 18) hx hb hE hM rfl (by decide) (vp_in_nI (N := 60) (by omega) (by decide)) dX11_post_106 ?_
                        refine lv_iload_n hx hb dX11_post_107 rfl (lv_at hl 1 rfl) ?_
                        refine lv_icmp_ne (tgt := 113) hx hb dX11_post_108 (by decide) (fun c14 => ?_) (fun c14 => ?_)
                        · refine lv_iinc (v := nI (k + 1)) (lv' := [(3, .int (nI (k + 1))), (0, .ref (M 0)), (1, .int a), (2, .int b)]) hx hb dX11_post_113 hl (k := 3) rfl (nI_1 k) (by decide) rfl (fun ls hl => ?_)
                          refine lv_goto (tgt := 54) hx hb dX11_post_116 (by decide) ?_
                          exact ih (k + 1) (by omega) (by simp only [m_poL, m_poC, decide_eq_true c11, decide_eq_false c12, decide_eq_true c13, decide_eq_false c14, Bool.not_true, Bool.not_false, Bool.and_true, Bool.true_and, Bool.and_false, Bool.false_and, Bool.or_true, Bool.true_or, Bool.or_false, Bool.false_or, Bool.and_self, Bool.or_self, eq_self, if_true, Bool.false_eq_true, if_false] at hi; exact hi) h1 h60 _ _ hM hS _ (lv_sub hl [1, 2, 3, 0] rfl)
                        · refine lv_iconst (v := (-1)) hx hb dX11_post_111 (by decide) ?_
                          exact ct_ri hx hb hr hlocks hS (by (have hB : (m_postBad σ a b || m_poL σ a b (nn σ 23) 0) = true := (by simp only [m_poL, m_poC, decide_eq_true c11, decide_eq_false c12, decide_eq_true c13, decide_eq_true c14, Bool.not_true, Bool.not_false, Bool.and_true, Bool.true_and, Bool.and_false, Bool.false_and, Bool.or_true, Bool.true_or, Bool.or_false, Bool.false_or, Bool.and_self, Bool.or_self, eq_self, if_true, Bool.false_eq_true, if_false] at hi; rw [h1, ← hT, ← hi]; rfl)); unfold m_post; rw [hB]; exact ⟨rfl, hM⟩) (Nat.le_of_ble_eq_true rfl) (Nat.le_of_ble_eq_true rfl) dX11_post_112
                    · refine lv_aload_n hx hb dX11_post_81 rfl (lv_at hl 0 rfl) ?_
                      refine rd_get (k := 18) (v := .ref (M 18)) hx hb hown hu hE ok12 (md_obj hM) (by decide) u775 (fun _ h => h) rfl dX11_post_82 ?_
                      refine lv_iload_n hx hb dX11_post_85 rfl (lv_at hl 3 rfl) ?_
                      refine mr_ld (t := 18) hx hb hE hM rfl (by decide) (vp_in_nI (N := 60) (by omega) (by decide)) dX11_post_86 ?_
                      refine lv_iload_n hx hb dX11_post_87 rfl (lv_at hl 2 rfl) ?_
                      refine lv_icmp_eq (tgt := 111) hx hb dX11_post_88 (by decide) (fun c15 => ?_) (fun c15 => ?_)
                      · refine lv_iconst (v := (-1)) hx hb dX11_post_111 (by decide) ?_
                        exact ct_ri hx hb hr hlocks hS (by (have hB : (m_postBad σ a b || m_poL σ a b (nn σ 23) 0) = true := (by simp only [m_poL, m_poC, decide_eq_true c11, decide_eq_true c12, decide_eq_true c15, Bool.not_true, Bool.not_false, Bool.and_true, Bool.true_and, Bool.and_false, Bool.false_and, Bool.or_true, Bool.true_or, Bool.or_false, Bool.false_or, Bool.and_self, Bool.or_self, eq_self, if_true, Bool.false_eq_true, if_false] at hi; rw [h1, ← hT, ← hi]; rfl)); unfold m_post; rw [hB]; exact ⟨rfl, hM⟩) (Nat.le_of_ble_eq_true rfl) (Nat.le_of_ble_eq_true rfl) dX11_post_112
                      · refine lv_aload_n hx hb dX11_post_91 rfl (lv_at hl 0 rfl) ?_
                        refine rd_get (k := 17) (v := .ref (M 17)) hx hb hown hu hE ok12 (md_obj hM) (by decide) u774 (fun _ h => h) rfl dX11_post_92 ?_
                        refine lv_iload_n hx hb dX11_post_95 rfl (lv_at hl 3 rfl) ?_
                        refine mr_ld (t := 17) hx hb hE hM rfl (by decide) (vp_in_nI (N := 60) (by omega) (by decide)) dX11_post_96 ?_
                        refine lv_iload_n hx hb dX11_post_97 rfl (lv_at hl 2 rfl) ?_
                        refine lv_icmp_ne (tgt := 113) hx hb dX11_post_98 (by decide) (fun c16 => ?_) (fun c16 => ?_)
                        · refine lv_iinc (v := nI (k + 1)) (lv' := [(3, .int (nI (k + 1))), (0, .ref (M 0)), (1, .int a), (2, .int b)]) hx hb dX11_post_113 hl (k := 3) rfl (nI_1 k) (by decide) rfl (fun ls hl => ?_)
                          refine lv_goto (tgt := 54) hx hb dX11_post_116 (by decide) ?_
                          exact ih (k + 1) (by omega) (by simp only [m_poL, m_poC, decide_eq_true c11, decide_eq_true c12, decide_eq_false c15, decide_eq_false c16, Bool.not_true, Bool.not_false, Bool.and_true, Bool.true_and, Bool.and_false, Bool.false_and, Bool.or_true, Bool.true_or, Bool.or_false, Bool.false_or, Bool.and_self, Bool.or_self, eq_self, if_true, Bool.false_eq_true, if_false] at hi; exact hi) h1 h60 _ _ hM hS _ (lv_sub hl [1, 2, 3, 0] rfl)
                        · refine lv_aload_n hx hb dX11_post_101 rfl (lv_at hl 0 rfl) ?_
                          refine rd_get (k := 18) (v := .ref (M 18)) hx hb hown hu hE ok12 (md_obj hM) (by decide) u775 (fun _ h => h) rfl dX11_post_102 ?_
                          refine lv_iload_n hx hb dX11_post_105 rfl (lv_at hl 3 rfl) ?_
                          refine mr_ld (t := 18) hx hb hE hM rfl (by decide) (vp_in_nI (N := 60) (by omega) (by decide)) dX11_post_106 ?_
                          refine lv_iload_n hx hb dX11_post_107 rfl (lv_at hl 1 rfl) ?_
                          refine lv_icmp_ne (tgt := 113) hx hb dX11_post_108 (by decide) (fun c17 => ?_) (fun c17 => ?_)
                          · refine lv_iinc (v := nI (k + 1)) (lv' := [(3, .int (nI (k + 1))), (0, .ref (M 0)), (1, .int a), (2, .int b)]) hx hb dX11_post_113 hl (k := 3) rfl (nI_1 k) (by decide) rfl (fun ls hl => ?_)
                            refine lv_goto (tgt := 54) hx hb dX11_post_116 (by decide) ?_
                            exact ih (k + 1) (by omega) (by simp only [m_poL, m_poC, decide_eq_true c11, decide_eq_true c12, decide_eq_false c15, decide_eq_true c16, decide_eq_false c17, Bool.not_true, Bool.not_false, Bool.and_true, Bool.true_and, Bool.and_false, Bool.false_and, Bool.or_true, Bool.true_or, Bool.or_false, Bool.false_or, Bool.and_self, Bool.or_self, eq_self, if_true, Bool.false_eq_true, if_false] at hi; exact hi) h1 h60 _ _ hM hS _ (lv_sub hl [1, 2, 3, 0] rfl)
                          · refine lv_iconst (v := (-1)) hx hb dX11_post_111 (by decide) ?_
                            exact ct_ri hx hb hr hlocks hS (by (have hB : (m_postBad σ a b || m_poL σ a b (nn σ 23) 0) = true := (by simp only [m_poL, m_poC, decide_eq_true c11, decide_eq_true c12, decide_eq_false c15, decide_eq_true c16, decide_eq_true c17, Bool.not_true, Bool.not_false, Bool.and_true, Bool.true_and, Bool.and_false, Bool.false_and, Bool.or_true, Bool.true_or, Bool.or_false, Bool.false_or, Bool.and_self, Bool.or_self, eq_self, if_true, Bool.false_eq_true, if_false] at hi; rw [h1, ← hT, ← hi]; rfl)); unfold m_post; rw [hB]; exact ⟨rfl, hM⟩) (Nat.le_of_ble_eq_true rfl) (Nat.le_of_ble_eq_true rfl) dX11_post_112
              exact lo (nn σ 23) 0 (by omega) hT.symm (by simp only [m_postBad, b1, b3, decide_eq_false c5, decide_eq_true c6, decide_eq_true c7, decide_eq_false c8, Bool.not_true, Bool.not_false, Bool.and_true, Bool.true_and, Bool.and_false, Bool.false_and, Bool.or_true, Bool.true_or, Bool.or_false, Bool.false_or, Bool.and_self, Bool.or_self, eq_self, if_true, Bool.false_eq_true, if_false]) c8 _ _ hM hS _ (lv_sub hl [1, 2, 3, 0] rfl)
            · refine lv_iconst (v := (-1)) hx hb dX11_post_50 (by decide) ?_
              exact ct_ri hx hb hr hlocks hS (by (have hB : (m_postBad σ a b || m_poL σ a b (nn σ 23) 0) = true := (by simp only [m_postBad, b1, b3, decide_eq_false c5, decide_eq_true c6, decide_eq_true c7, decide_eq_true c8, Bool.not_true, Bool.not_false, Bool.and_true, Bool.true_and, Bool.and_false, Bool.false_and, Bool.or_true, Bool.true_or, Bool.or_false, Bool.false_or, Bool.and_self, Bool.or_self, eq_self, if_true, Bool.false_eq_true, if_false])); unfold m_post; rw [hB]; exact ⟨rfl, hM⟩) (Nat.le_of_ble_eq_true rfl) (Nat.le_of_ble_eq_true rfl) dX11_post_51
    · refine lv_if_eq (tgt := 50) hx hb dX11_post_13 (by decide) (fun _ => ?_) (fun c18 => absurd (by decide) c18)
      refine lv_iconst (v := (-1)) hx hb dX11_post_50 (by decide) ?_
      exact ct_ri hx hb hr hlocks hS (by (have hB : (m_postBad σ a b || m_poL σ a b (nn σ 23) 0) = true := (by simp only [m_postBad, b1, b3, Bool.not_true, Bool.not_false, Bool.and_true, Bool.true_and, Bool.and_false, Bool.false_and, Bool.or_true, Bool.true_or, Bool.or_false, Bool.false_or, Bool.and_self, Bool.or_self, eq_self, if_true, Bool.false_eq_true, if_false])); unfold m_post; rw [hB]; exact ⟨rfl, hM⟩) (Nat.le_of_ble_eq_true rfl) (Nat.le_of_ble_eq_true rfl) dX11_post_51
  · refine lv_if_eq (tgt := 50) hx hb dX11_post_5 (by decide) (fun _ => ?_) (fun c19 => absurd (by decide) c19)
    refine lv_iconst (v := (-1)) hx hb dX11_post_50 (by decide) ?_
    exact ct_ri hx hb hr hlocks hS (by (have hB : (m_postBad σ a b || m_poL σ a b (nn σ 23) 0) = true := (by simp only [m_postBad, b1, Bool.not_true, Bool.not_false, Bool.and_true, Bool.true_and, Bool.and_false, Bool.false_and, Bool.or_true, Bool.true_or, Bool.or_false, Bool.false_or, Bool.and_self, Bool.or_self, eq_self, if_true, Bool.false_eq_true, if_false])); unfold m_post; rw [hB]; exact ⟨rfl, hM⟩) (Nat.le_of_ble_eq_true rfl) (Nat.le_of_ble_eq_true rfl) dX11_post_51
