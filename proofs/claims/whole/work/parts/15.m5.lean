set_option maxHeartbeats 1000000 in
set_option maxRecDepth 20000 in
theorem c_finds (l : Launch) (E : EV) (A : Nat → Prop) (σ : St) (M : Nat → Nat) (n dy : Int32) : Ct l E yX11_finds cX11_finds 6 (some .boolean) 5 121 0 0 A [.ref (M 0), .int n, .int dy] (fun H => Md E A σ M H ∧ InvM σ ∧ okN σ n ∧ okD dy) (fun v H => v = some (.int (bI (m_find σ n dy).isSome)) ∧ Md E A (m_finS σ n dy) M H) := by
  refine Ct.of (by decide +kernel) (Nat.le_of_ble_eq_true rfl) (fun pg ev s mi bel mth cd hx hb hr hml hown hu hlocks hnm hE hP hA hZ ls hl => ?_)
  have hl : lv_has ls 6 [(0, .ref (M 0)), (1, .int n), (2, .int dy)] := hl
  have hS : va_S A s.heap s.heap [] := va_S.rf
  obtain ⟨hM, hI, hX, hD⟩ := hP
  have hn := cnt_le (N := 6) hI.1.2.2.2.2.2.2.1
  have hc := cnt_nI hI.1.2.2.2.2.2.2.1
  refine lv_bipush (v := 8) hx hb dX11_finds_0 (by decide) ?_
  refine lv_istore_n (lv' := [(3, .int 8), (0, .ref (M 0)), (1, .int n), (2, .int dy)]) hx hb dX11_finds_2 rfl hl (by decide) rfl (fun ls hl => ?_)
  obtain ⟨T1, hT1⟩ : ∃ z, z = m_find σ n dy := ⟨_, rfl⟩
  have l1 : ∀ (g h : Nat), (h + g = 18) → (m_fiH σ n dy g h = T1) → ∀ (H1 : Heap) (locs1 : List Loc), Md E A σ M H1 → va_S A s.heap H1 locs1 → ∀ (ls : Array Slot), lv_has ls 6 [(0, .ref (M 0)), (1, .int n), (2, .int dy), (3, .int (nI h))] → W pg l ev { frames := 5, cells := 0, slots := 0, locals := 121 } s mi [.ref (M 0), .int n, .int dy].toArray bel mth cd H1 locs1 0 0 (QT bel s [.ref (M 0), .int n, .int dy].toArray 0 0 A (fun v H => v = some (.int (bI (m_find σ n dy).isSome)) ∧ Md E A (m_finS σ n dy) M H)) (F0 mi 3 ls []) := by
    intro g
    induction g with
    | zero =>
      intro h hk1 hi1 H1 locs1 hM hS ls hl
      refine lv_iload_n hx hb dX11_finds_3 rfl (lv_at hl 3 rfl) ?_
      refine lv_bipush (v := 17) hx hb dX11_finds_4 (by decide) ?_
      refine lv_icmp_gt (tgt := 93) hx hb dX11_finds_6 (by decide) (fun c1 => ?_) (fun c1 => absurd (show nI 17 < _ from nI_lt (by omega) (by omega)) c1)
      refine lv_iconst (v := 0) hx hb dX11_finds_93 (by decide) ?_
      exact ct_rz hx hb hr hlocks hS (by simp only [m_fiH] at hi1; (have hf : m_find σ n dy = none := hT1.symm.trans hi1.symm); unfold m_finS; rw [hf]; exact ⟨rfl, hM⟩) (rfl) (Nat.le_of_ble_eq_true rfl) (Nat.le_of_ble_eq_true rfl) dX11_finds_94
    | succ g ih1 =>
      intro h hk1 hi1 H1 locs1 hM hS ls hl
      refine lv_iload_n hx hb dX11_finds_3 rfl (lv_at hl 3 rfl) ?_
      refine lv_bipush (v := 17) hx hb dX11_finds_4 (by decide) ?_
      refine lv_icmp_gt (tgt := 93) hx hb dX11_finds_6 (by decide) (fun c2 => absurd c2 (show ¬ nI 17 < _ from nI_nlt (by omega) (by omega))) (fun c2 => ?_)
      refine lv_iconst (v := 0) hx hb dX11_finds_9 (by decide) ?_
      refine lv_istore (lv' := [(4, .int 0), (0, .ref (M 0)), (1, .int n), (2, .int dy), (3, .int (nI h))]) hx hb dX11_finds_10 hl (by decide) rfl (fun ls hl => ?_)
      obtain ⟨T2, hT2⟩ : ∃ z, z = m_fiW σ n dy h 4 0 := ⟨_, rfl⟩
      have l2 : ∀ (q w : Nat), (w + q = 4) → (m_fiW σ n dy h q w = T2) → ∀ (H1 : Heap) (locs1 : List Loc), Md E A σ M H1 → va_S A s.heap H1 locs1 → ∀ (ls : Array Slot), lv_has ls 6 [(0, .ref (M 0)), (1, .int n), (2, .int dy), (3, .int (nI h)), (4, .int (nI w))] → W pg l ev { frames := 5, cells := 0, slots := 0, locals := 121 } s mi [.ref (M 0), .int n, .int dy].toArray bel mth cd H1 locs1 0 0 (QT bel s [.ref (M 0), .int n, .int dy].toArray 0 0 A (fun v H => v = some (.int (bI (m_find σ n dy).isSome)) ∧ Md E A (m_finS σ n dy) M H)) (F0 mi 12 ls []) := by
        intro q
        induction q with
        | zero =>
          intro w hk2 hi2 H1 locs1 hM hS ls hl
          simp only [m_fiW] at hi2
          refine lv_iload hx hb dX11_finds_12 (lv_at hl 4 rfl) ?_
          refine lv_iconst (v := 4) hx hb dX11_finds_14 (by decide) ?_
          refine lv_icmp_ge (tgt := 87) hx hb dX11_finds_15 (by decide) (fun c3 => ?_) (fun c3 => absurd (show nI 4 ≤ _ from nI_le (by omega) (by omega)) c3)
          refine lv_iinc (v := nI (h + 1)) (lv' := [(3, .int (nI (h + 1))), (0, .ref (M 0)), (1, .int n), (2, .int dy), (4, .int (nI w))]) hx hb dX11_finds_87 hl (k := 3) rfl (nI_1 h) (by decide) rfl (fun ls hl => ?_)
          refine lv_goto (tgt := 3) hx hb dX11_finds_90 (by decide) ?_
          exact ih1 (h + 1) (by omega) (by rw [m_fiH, ← hT2, ← hi2] at hi1; exact hi1) _ _ hM hS _ (lv_sub hl [1, 2, 3, 0] rfl)
        | succ q ih2 =>
          intro w hk2 hi2 H1 locs1 hM hS ls hl
          refine lv_iload hx hb dX11_finds_12 (lv_at hl 4 rfl) ?_
          refine lv_iconst (v := 4) hx hb dX11_finds_14 (by decide) ?_
          refine lv_icmp_ge (tgt := 87) hx hb dX11_finds_15 (by decide) (fun c4 => absurd c4 (show ¬ nI 4 ≤ _ from nI_ge (by omega) (by omega))) (fun c4 => ?_)
          refine lv_iconst (v := 0) hx hb dX11_finds_18 (by decide) ?_
          refine lv_istore (lv' := [(5, .int 0), (0, .ref (M 0)), (1, .int n), (2, .int dy), (3, .int (nI h)), (4, .int (nI w))]) hx hb dX11_finds_19 hl (by decide) rfl (fun ls hl => ?_)
          obtain ⟨T3, hT3⟩ : ∃ z, z = m_fiR σ n dy h w (nn σ 28) 0 := ⟨_, rfl⟩
          have l3 : ∀ (f r : Nat), (r + f = nn σ 28) → (m_fiR σ n dy h w f r = T3) → ∀ (H1 : Heap) (locs1 : List Loc), Md E A σ M H1 → va_S A s.heap H1 locs1 → ∀ (ls : Array Slot), lv_has ls 6 [(0, .ref (M 0)), (1, .int n), (2, .int dy), (3, .int (nI h)), (4, .int (nI w)), (5, .int (nI r))] → W pg l ev { frames := 5, cells := 0, slots := 0, locals := 121 } s mi [.ref (M 0), .int n, .int dy].toArray bel mth cd H1 locs1 0 0 (QT bel s [.ref (M 0), .int n, .int dy].toArray 0 0 A (fun v H => v = some (.int (bI (m_find σ n dy).isSome)) ∧ Md E A (m_finS σ n dy) M H)) (F0 mi 21 ls []) := by
            intro f
            induction f with
            | zero =>
              intro r hk3 hi3 H1 locs1 hM hS ls hl
              simp only [m_fiR] at hi3
              refine lv_iload hx hb dX11_finds_21 (lv_at hl 5 rfl) ?_
              refine lv_aload_n hx hb dX11_finds_23 rfl (lv_at hl 0 rfl) ?_
              refine rd_get (k := 28) (v := .int (σ 28 0)) hx hb hown hu hE ok12 (md_obj hM) (by decide) u785 (fun _ h => h) rfl dX11_finds_24 ?_
              refine lv_icmp_ge (tgt := 81) hx hb dX11_finds_27 (by decide) (fun c5 => ?_) (fun c5 => absurd (by rw [hc]; exact nI_le (by omega) (by omega)) c5)
              refine lv_iinc (v := nI (w + 1)) (lv' := [(4, .int (nI (w + 1))), (0, .ref (M 0)), (1, .int n), (2, .int dy), (3, .int (nI h)), (5, .int (nI r))]) hx hb dX11_finds_81 hl (k := 4) rfl (nI_1 w) (by decide) rfl (fun ls hl => ?_)
              refine lv_goto (tgt := 12) hx hb dX11_finds_84 (by decide) ?_
              exact ih2 (w + 1) (by omega) (by rw [m_fiW, ← hT3, ← hi3] at hi2; exact hi2) _ _ hM hS _ (lv_sub hl [1, 2, 3, 4, 0] rfl)
            | succ f ih3 =>
              intro r hk3 hi3 H1 locs1 hM hS ls hl
              refine lv_iload hx hb dX11_finds_21 (lv_at hl 5 rfl) ?_
              refine lv_aload_n hx hb dX11_finds_23 rfl (lv_at hl 0 rfl) ?_
              refine rd_get (k := 28) (v := .int (σ 28 0)) hx hb hown hu hE ok12 (md_obj hM) (by decide) u785 (fun _ h => h) rfl dX11_finds_24 ?_
              refine lv_icmp_ge (tgt := 81) hx hb dX11_finds_27 (by decide) (fun c6 => absurd c6 (by rw [hc]; exact nI_ge (by omega) (by omega))) (fun c6 => ?_)
              refine lv_aload_n hx hb dX11_finds_30 rfl (lv_at hl 0 rfl) ?_
              refine lv_iload_n hx hb dX11_finds_31 rfl (lv_at hl 1 rfl) ?_
              refine lv_iload_n hx hb dX11_finds_32 rfl (lv_at hl 2 rfl) ?_
              refine lv_iload_n hx hb dX11_finds_33 rfl (lv_at hl 3 rfl) ?_
              refine lv_iload hx hb dX11_finds_34 (lv_at hl 4 rfl) ?_
              refine lv_iload hx hb dX11_finds_36 (lv_at hl 5 rfl) ?_
              refine ct_V (As := [.int n, .int dy, .int (nI h), .int (nI w), .int (nI r)]) (rest := []) hx hb hml hown hu hE hZ hS (fun _ h => h) (fun q h => hA q (Nat.le_trans hS.1 h)) (c_bars l E A σ M n dy (nI h) (nI w) (nI r)) kX11_bars u998 (md_obj hM) rfl rfl (⟨hM, hI, ⟨hX, hD, okR_nI hI (by omega)⟩⟩) ⟨Nat.le_of_ble_eq_true rfl, Nat.le_of_ble_eq_true rfl⟩ rfl hl.1 rfl (Nat.le_of_ble_eq_true rfl) ⟨Nat.le_of_ble_eq_true rfl, Nat.le_of_ble_eq_true rfl⟩ dX11_finds_38 (fun v7 H1 locs1 hR hS hz hk => ?_)
              obtain ⟨rfl, hM⟩ := hR
              refine lv_if_le (tgt := 47) hx hb dX11_finds_41 (by decide) (fun c8 => ?_) (fun c8 => ?_)
              · refine lv_aload_n hx hb dX11_finds_47 rfl (lv_at hl 0 rfl) ?_
                refine rd_get (k := 21) (v := .ref (M 21)) hx hb hown hu hE ok12 (md_obj hM) (by decide) u778 (fun _ h => h) rfl dX11_finds_48 ?_
                refine lv_iload_n hx hb dX11_finds_51 rfl (lv_at hl 1 rfl) ?_
                refine lv_iload_n hx hb dX11_finds_52 rfl (lv_at hl 2 rfl) ?_
                refine mr_st (t := 21) hx hb hE hS hM rfl (by decide) (okN_in hI hX) dX11_finds_53 (fun H1 locs1 hM hS => ?_)
                refine lv_aload_n hx hb dX11_finds_54 rfl (lv_at hl 0 rfl) ?_
                refine rd_get (k := 22) (v := .ref (M 22)) hx hb hown hu hE ok12 (md_obj hM) (by decide) u779 (fun _ h => h) rfl dX11_finds_55 ?_
                refine lv_iload_n hx hb dX11_finds_58 rfl (lv_at hl 1 rfl) ?_
                refine lv_bipush (v := 100) hx hb dX11_finds_59 (by decide) ?_
                refine lv_iload_n hx hb dX11_finds_61 rfl (lv_at hl 3 rfl) ?_
                refine lv_imul hx hb dX11_finds_62 ?_
                refine lv_bipush (v := 10) hx hb dX11_finds_63 (by decide) ?_
                refine lv_iload hx hb dX11_finds_65 (lv_at hl 4 rfl) ?_
                refine lv_imul hx hb dX11_finds_67 ?_
                refine lv_iadd hx hb dX11_finds_68 ?_
                refine lv_iload hx hb dX11_finds_69 (lv_at hl 5 rfl) ?_
                refine lv_iadd hx hb dX11_finds_71 ?_
                refine mr_st (t := 22) hx hb hE hS hM rfl (by decide) (okN_in hI hX) dX11_finds_72 (fun H1 locs1 hM hS => ?_)
                refine lv_iconst (v := 1) hx hb dX11_finds_73 (by decide) ?_
                exact ct_rz hx hb hr hlocks hS (by simp only [m_fiR, decide_eq_false (Int32.not_lt.mpr c8), Bool.not_true, Bool.not_false, Bool.and_true, Bool.true_and, Bool.and_false, Bool.false_and, Bool.or_true, Bool.true_or, Bool.or_false, Bool.false_or, Bool.and_self, Bool.or_self, eq_self, if_true, Bool.false_eq_true, if_false] at hi3; rw [m_fiW, ← hT3, ← hi3] at hi2; rw [m_fiH, ← hT2, ← hi2] at hi1; (have hf : m_find σ n dy = _ := hT1.symm.trans hi1.symm); unfold m_finS; rw [hf]; exact ⟨rfl, hM⟩) (rfl) (Nat.le_of_ble_eq_true rfl) (Nat.le_of_ble_eq_true rfl) dX11_finds_74
              · refine lv_goto (tgt := 75) hx hb dX11_finds_44 (by decide) ?_
                refine lv_iinc (v := nI (r + 1)) (lv' := [(5, .int (nI (r + 1))), (0, .ref (M 0)), (1, .int n), (2, .int dy), (3, .int (nI h)), (4, .int (nI w))]) hx hb dX11_finds_75 hl (k := 5) rfl (nI_1 r) (by decide) rfl (fun ls hl => ?_)
                refine lv_goto (tgt := 21) hx hb dX11_finds_78 (by decide) ?_
                exact ih3 (r + 1) (by omega) (by simp only [m_fiR, decide_eq_true (Int32.not_le.mp c8), Bool.not_true, Bool.not_false, Bool.and_true, Bool.true_and, Bool.and_false, Bool.false_and, Bool.or_true, Bool.true_or, Bool.or_false, Bool.false_or, Bool.and_self, Bool.or_self, eq_self, if_true, Bool.false_eq_true, if_false] at hi3; exact hi3) _ _ hM hS _ (lv_sub hl [1, 2, 3, 4, 5, 0] rfl)
          exact l3 (nn σ 28) 0 (by omega) hT3.symm _ _ hM hS _ (lv_sub hl [1, 2, 3, 4, 5, 0] rfl)
      exact l2 4 0 rfl hT2.symm _ _ hM hS _ (lv_sub hl [1, 2, 3, 4, 0] rfl)
  exact l1 10 8 rfl hT1.symm _ _ hM hS _ (lv_sub hl [1, 2, 3, 0] rfl)
set_option maxHeartbeats 1000000 in
set_option maxRecDepth 20000 in
theorem c_order (l : Launch) (E : EV) (A : Nat → Prop) (σ : St) (M : Nat → Nat) (dy : Int32) : Ct l E yX11_order cX11_order 4 (some .int) 6 146 0 0 A [.ref (M 0), .int dy] (fun H => Md E A σ M H ∧ InvM σ) (fun v H => v = some (.int (m_order σ dy).1) ∧ Md E A (m_order σ dy).2 M H) := by
  refine Ct.of (by decide +kernel) (Nat.le_of_ble_eq_true rfl) (fun pg ev s mi bel mth cd hx hb hr hml hown hu hlocks hnm hE hP hA hZ ls hl => ?_)
  have hl : lv_has ls 4 [(0, .ref (M 0)), (1, .int dy)] := hl
  have hS : va_S A s.heap s.heap [] := va_S.rf
  obtain ⟨hM, hI⟩ := hP
  have hn := cnt_le (N := 60) hI.1.2.2.2.2.1
  have hc := cnt_nI hI.1.2.2.2.2.1
  refine lv_iload_n hx hb dX11_order_0 rfl (lv_at hl 1 rfl) ?_
  refine lv_aload_n hx hb dX11_order_1 rfl (lv_at hl 0 rfl) ?_
  refine rd_get (k := 0) (v := .int (σ 0 0)) hx hb hown hu hE ok12 (md_obj hM) (by decide) u757 (fun _ h => h) rfl dX11_order_2 ?_
  refine lv_sipush (v := 20000) hx hb dX11_order_5 (by decide) ?_
  refine cr_S (As := [.int dy, .int (σ 0 0), .int 20000]) (rest := []) hx hb hml hown hu hE (c_in l E dy (σ 0 0) 20000) kX11_in u873 (trivial) ⟨Nat.le_of_ble_eq_true rfl, Nat.le_of_ble_eq_true rfl⟩ rfl hl.1 rfl (Nat.le_of_ble_eq_true rfl) ⟨Nat.le_of_ble_eq_true rfl, Nat.le_of_ble_eq_true rfl⟩ dX11_order_8 ?_
  refine onB (fun b1 => ?_) (fun b1 => ?_)
  · refine lv_if_ne (tgt := 16) hx hb dX11_order_11 (by decide) (fun _ => ?_) (fun c2 => absurd c2 (by decide))
    have hI0 := hI
    have h1 := b1
    refine lv_iconst (v := 0) hx hb dX11_order_16 (by decide) ?_
    refine lv_istore_n (lv' := [(2, .int 0), (0, .ref (M 0)), (1, .int dy)]) hx hb dX11_order_17 rfl hl (by decide) rfl (fun ls hl => ?_)
    refine lv_iconst (v := 0) hx hb dX11_order_18 (by decide) ?_
    refine lv_istore_n (lv' := [(3, .int 0), (2, .int 0), (0, .ref (M 0)), (1, .int dy)]) hx hb dX11_order_19 rfl hl (by decide) rfl (fun ls hl => ?_)
    obtain ⟨T, hT⟩ : ∃ z, z = m_orL dy (nn σ 23) 0 0 σ := ⟨_, rfl⟩
    have lo : ∀ (f k : Nat) (r : Int32) (τ : St), (k + f = nn σ 23) → (m_orL dy f k r τ = T) → (InvM τ) → (τ 23 0 = σ 23 0) → ∀ (H1 : Heap) (locs1 : List Loc), Md E A τ M H1 → va_S A s.heap H1 locs1 → ∀ (ls : Array Slot), lv_has ls 4 [(0, .ref (M 0)), (1, .int dy), (2, .int r), (3, .int (nI k))] → W pg l ev { frames := 6, cells := 0, slots := 0, locals := 146 } s mi [.ref (M 0), .int dy].toArray bel mth cd H1 locs1 0 0 (QT bel s [.ref (M 0), .int dy].toArray 0 0 A (fun v H => v = some (.int (m_order σ dy).1) ∧ Md E A (m_order σ dy).2 M H)) (F0 mi 20 ls []) := by
      intro f
      induction f with
      | zero =>
        intro k r τ hk hi hI h23 H1 locs1 hM hS ls hl
        refine lv_iload_n hx hb dX11_order_20 rfl (lv_at hl 3 rfl) ?_
        refine lv_aload_n hx hb dX11_order_21 rfl (lv_at hl 0 rfl) ?_
        refine rd_get (k := 23) (v := .int (τ 23 0)) hx hb hown hu hE ok12 (md_obj hM) (by decide) u780 (fun _ h => h) rfl dX11_order_22 ?_
        refine lv_icmp_ge (tgt := 85) hx hb dX11_order_25 (by decide) (fun c3 => ?_) (fun c3 => absurd (by rw [h23, hc]; exact nI_le (by omega) (by omega)) c3)
        refine lv_iload_n hx hb dX11_order_85 rfl (lv_at hl 2 rfl) ?_
        exact ct_ri hx hb hr hlocks hS (by simp only [m_orL] at hi; unfold m_order; rw [h1]; rw [if_pos rfl, ← hT, ← hi]; exact ⟨rfl, hM⟩) (Nat.le_of_ble_eq_true rfl) (Nat.le_of_ble_eq_true rfl) dX11_order_86
      | succ f ih =>
        intro k r τ hk hi hI h23 H1 locs1 hM hS ls hl
        have hnn : nn τ 23 = nn σ 23 := by (unfold nn; rw [h23])
        refine lv_iload_n hx hb dX11_order_20 rfl (lv_at hl 3 rfl) ?_
        refine lv_aload_n hx hb dX11_order_21 rfl (lv_at hl 0 rfl) ?_
        refine rd_get (k := 23) (v := .int (τ 23 0)) hx hb hown hu hE ok12 (md_obj hM) (by decide) u780 (fun _ h => h) rfl dX11_order_22 ?_
        refine lv_icmp_ge (tgt := 85) hx hb dX11_order_25 (by decide) (fun c4 => absurd c4 (by rw [h23, hc]; exact nI_ge (by omega) (by omega))) (fun c4 => ?_)
        refine lv_aload_n hx hb dX11_order_28 rfl (lv_at hl 0 rfl) ?_
        refine rd_get (k := 20) (v := .ref (M 20)) hx hb hown hu hE ok12 (md_obj hM) (by decide) u777 (fun _ h => h) rfl dX11_order_29 ?_
        refine lv_iload_n hx hb dX11_order_32 rfl (lv_at hl 3 rfl) ?_
        refine mr_ld (t := 20) hx hb hE hM rfl (by decide) (okN_in hI (nI_okN hI (by have := hnn; omega))) dX11_order_33 ?_
        refine lv_if_ne (tgt := 79) hx hb dX11_order_34 (by decide) (fun c5 => ?_) (fun c5 => ?_)
        · refine lv_iinc (v := nI (k + 1)) (lv' := [(3, .int (nI (k + 1))), (0, .ref (M 0)), (1, .int dy), (2, .int r)]) hx hb dX11_order_79 hl (k := 3) rfl (nI_1 k) (by decide) rfl (fun ls hl => ?_)
          refine lv_goto (tgt := 20) hx hb dX11_order_82 (by decide) ?_
          exact ih (k + 1) _ τ (by omega) (by simp only [m_orL, m_orC, decide_eq_false c5, Bool.not_true, Bool.not_false, Bool.and_true, Bool.true_and, Bool.and_false, Bool.false_and, Bool.or_true, Bool.true_or, Bool.or_false, Bool.false_or, Bool.and_self, Bool.or_self, eq_self, if_true, Bool.false_eq_true, if_false] at hi; exact hi) hI h23 _ _ hM hS _ (lv_sub hl [1, 2, 3, 0] rfl)
        · refine lv_aload_n hx hb dX11_order_37 rfl (lv_at hl 0 rfl) ?_
          refine rd_get (k := 21) (v := .ref (M 21)) hx hb hown hu hE ok12 (md_obj hM) (by decide) u778 (fun _ h => h) rfl dX11_order_38 ?_
          refine lv_iload_n hx hb dX11_order_41 rfl (lv_at hl 3 rfl) ?_
          refine mr_ld (t := 21) hx hb hE hM rfl (by decide) (okN_in hI (nI_okN hI (by have := hnn; omega))) dX11_order_42 ?_
          refine lv_iconst (v := (-1)) hx hb dX11_order_43 (by decide) ?_
          refine lv_icmp_ne (tgt := 79) hx hb dX11_order_44 (by decide) (fun c6 => ?_) (fun c6 => ?_)
          · refine lv_iinc (v := nI (k + 1)) (lv' := [(3, .int (nI (k + 1))), (0, .ref (M 0)), (1, .int dy), (2, .int r)]) hx hb dX11_order_79 hl (k := 3) rfl (nI_1 k) (by decide) rfl (fun ls hl => ?_)
            refine lv_goto (tgt := 20) hx hb dX11_order_82 (by decide) ?_
            exact ih (k + 1) _ τ (by omega) (by simp only [m_orL, m_orC, decide_eq_true c5, decide_eq_false c6, Bool.not_true, Bool.not_false, Bool.and_true, Bool.true_and, Bool.and_false, Bool.false_and, Bool.or_true, Bool.true_or, Bool.or_false, Bool.false_or, Bool.and_self, Bool.or_self, eq_self, if_true, Bool.false_eq_true, if_false] at hi; exact hi) hI h23 _ _ hM hS _ (lv_sub hl [1, 2, 3, 0] rfl)
          · refine lv_aload_n hx hb dX11_order_47 rfl (lv_at hl 0 rfl) ?_
            refine lv_aload_n hx hb dX11_order_48 rfl (lv_at hl 0 rfl) ?_
            refine rd_get (k := 17) (v := .ref (M 17)) hx hb hown hu hE ok12 (md_obj hM) (by decide) u774 (fun _ h => h) rfl dX11_order_49 ?_
            refine lv_iload_n hx hb dX11_order_52 rfl (lv_at hl 3 rfl) ?_
            refine mr_ld (t := 17) hx hb hE hM rfl (by decide) (okN_in hI (nI_okN hI (by have := hnn; omega))) dX11_order_53 ?_
            refine lv_aload_n hx hb dX11_order_54 rfl (lv_at hl 0 rfl) ?_
            refine rd_get (k := 18) (v := .ref (M 18)) hx hb hown hu hE ok12 (md_obj hM) (by decide) u775 (fun _ h => h) rfl dX11_order_55 ?_
            refine lv_iload_n hx hb dX11_order_58 rfl (lv_at hl 3 rfl) ?_
            refine mr_ld (t := 18) hx hb hE hM rfl (by decide) (okN_in hI (nI_okN hI (by have := hnn; omega))) dX11_order_59 ?_
            refine lv_iload_n hx hb dX11_order_60 rfl (lv_at hl 1 rfl) ?_
            refine ct_V (As := [.int (gA τ 17 (nI k)), .int (gA τ 18 (nI k)), .int dy]) (rest := []) hx hb hml hown hu hE hZ hS (fun _ h => h) (fun q h => hA q (Nat.le_trans hS.1 h)) (c_stands l E A τ M (gA τ 17 (nI k)) (gA τ 18 (nI k)) dy) kX11_stands u925 (md_obj hM) rfl rfl (⟨hM, hI, ⟨one_ok hI (nI_okN hI (by have := hnn; omega)), oth_ok hI (nI_okN hI (by have := hnn; omega))⟩⟩) ⟨Nat.le_of_ble_eq_true rfl, Nat.le_of_ble_eq_true rfl⟩ rfl hl.1 rfl (Nat.le_of_ble_eq_true rfl) ⟨Nat.le_of_ble_eq_true rfl, Nat.le_of_ble_eq_true rfl⟩ dX11_order_61 (fun v7 H1 locs1 hR hS hz hk => ?_)
            obtain ⟨rfl, hM⟩ := hR
            refine lv_if_ne (tgt := 79) hx hb dX11_order_64 (by decide) (fun c8 => ?_) (fun c8 => ?_)
            · refine lv_iinc (v := nI (k + 1)) (lv' := [(3, .int (nI (k + 1))), (0, .ref (M 0)), (1, .int dy), (2, .int r)]) hx hb dX11_order_79 hl (k := 3) rfl (nI_1 k) (by decide) rfl (fun ls hl => ?_)
              refine lv_goto (tgt := 20) hx hb dX11_order_82 (by decide) ?_
              exact ih (k + 1) _ τ (by omega) (by simp only [m_orL, m_orC, decide_eq_true c5, decide_eq_true c6, decide_eq_false c8, Bool.not_true, Bool.not_false, Bool.and_true, Bool.true_and, Bool.and_false, Bool.false_and, Bool.or_true, Bool.true_or, Bool.or_false, Bool.false_or, Bool.and_self, Bool.or_self, eq_self, if_true, Bool.false_eq_true, if_false] at hi; exact hi) hI h23 _ _ hM hS _ (lv_sub hl [1, 2, 3, 0] rfl)
            · refine lv_aload_n hx hb dX11_order_67 rfl (lv_at hl 0 rfl) ?_
              refine lv_iload_n hx hb dX11_order_68 rfl (lv_at hl 3 rfl) ?_
              refine lv_iload_n hx hb dX11_order_69 rfl (lv_at hl 1 rfl) ?_
              refine ct_V (As := [.int (nI k), .int dy]) (rest := []) hx hb hml hown hu hE hZ hS (fun _ h => h) (fun q h => hA q (Nat.le_trans hS.1 h)) (c_finds l E A τ M (nI k) dy) kX11_finds u1014 (md_obj hM) rfl rfl (⟨hM, hI, nI_okN hI (by have := hnn; omega), okD_now hI0 h1⟩) ⟨Nat.le_of_ble_eq_true rfl, Nat.le_of_ble_eq_true rfl⟩ rfl hl.1 rfl (Nat.le_of_ble_eq_true rfl) ⟨Nat.le_of_ble_eq_true rfl, Nat.le_of_ble_eq_true rfl⟩ dX11_order_70 (fun v9 H1 locs1 hR hS hz hk => ?_)
              obtain ⟨rfl, hM⟩ := hR
              refine onB (fun b10 => ?_) (fun b10 => ?_)
              · refine lv_if_eq (tgt := 79) hx hb dX11_order_73 (by decide) (fun c11 => absurd c11 (by decide)) (fun _ => ?_)
                refine lv_iinc (v := r + 1) (lv' := [(2, .int (r + 1)), (0, .ref (M 0)), (1, .int dy), (3, .int (nI k))]) hx hb dX11_order_76 hl (k := 2) rfl rfl (by decide) rfl (fun ls hl => ?_)
                refine lv_iinc (v := nI (k + 1)) (lv' := [(3, .int (nI (k + 1))), (2, .int (r + 1)), (0, .ref (M 0)), (1, .int dy)]) hx hb dX11_order_79 hl (k := 3) rfl (nI_1 k) (by decide) rfl (fun ls hl => ?_)
                refine lv_goto (tgt := 20) hx hb dX11_order_82 (by decide) ?_
                exact ih (k + 1) _ _ (by omega) (by simp only [m_orL, m_orC, decide_eq_true c5, decide_eq_true c6, decide_eq_true c8, b10, Bool.not_true, Bool.not_false, Bool.and_true, Bool.true_and, Bool.and_false, Bool.false_and, Bool.or_true, Bool.true_or, Bool.or_false, Bool.false_or, Bool.and_self, Bool.or_self, eq_self, if_true, Bool.false_eq_true, if_false] at hi; exact hi) (invM_fin hI).1 ((invM_fin hI).2.1.trans h23) _ _ hM hS _ (lv_sub hl [2, 3, 1, 0] rfl)
              · refine lv_if_eq (tgt := 79) hx hb dX11_order_73 (by decide) (fun _ => ?_) (fun c12 => absurd (by decide) c12)
                refine lv_iinc (v := nI (k + 1)) (lv' := [(3, .int (nI (k + 1))), (0, .ref (M 0)), (1, .int dy), (2, .int r)]) hx hb dX11_order_79 hl (k := 3) rfl (nI_1 k) (by decide) rfl (fun ls hl => ?_)
                refine lv_goto (tgt := 20) hx hb dX11_order_82 (by decide) ?_
                exact ih (k + 1) _ _ (by omega) (by simp only [m_orL, m_orC, decide_eq_true c5, decide_eq_true c6, decide_eq_true c8, b10, Bool.not_true, Bool.not_false, Bool.and_true, Bool.true_and, Bool.and_false, Bool.false_and, Bool.or_true, Bool.true_or, Bool.or_false, Bool.false_or, Bool.and_self, Bool.or_self, eq_self, if_true, Bool.false_eq_true, if_false] at hi; exact hi) (invM_fin hI).1 ((invM_fin hI).2.1.trans h23) _ _ hM hS _ (lv_sub hl [1, 2, 3, 0] rfl)
    exact lo (nn σ 23) 0 0 σ (by omega) hT.symm hI rfl _ _ hM hS _ (lv_sub hl [2, 3, 1, 0] rfl)
  · refine lv_if_ne (tgt := 16) hx hb dX11_order_11 (by decide) (fun c13 => absurd c13 (by decide)) (fun _ => ?_)
    refine lv_iconst (v := (-1)) hx hb dX11_order_14 (by decide) ?_
    exact ct_ri hx hb hr hlocks hS (by unfold m_order; rw [b1]; exact ⟨rfl, hM⟩) (Nat.le_of_ble_eq_true rfl) (Nat.le_of_ble_eq_true rfl) dX11_order_15
set_option maxHeartbeats 1000000 in
set_option maxRecDepth 20000 in
theorem c_wed (l : Launch) (E : EV) (A : Nat → Prop) (σ : St) (M : Nat → Nat) (n : Int32) : Ct l E yX11_wed cX11_wed 5 (some .int) 5 118 0 0 A [.ref (M 0), .int n] (fun H => Md E A σ M H ∧ InvM σ) (fun v H => v = some (.int (m_wed σ n).1) ∧ Md E A (m_wed σ n).2 M H) := by
  refine Ct.of (by decide +kernel) (Nat.le_of_ble_eq_true rfl) (fun pg ev s mi bel mth cd hx hb hr hml hown hu hlocks hnm hE hP hA hZ ls hl => ?_)
  have hl : lv_has ls 5 [(0, .ref (M 0)), (1, .int n)] := hl
  have hS : va_S A s.heap s.heap [] := va_S.rf
  obtain ⟨hM, hI⟩ := hP
  refine lv_aload_n hx hb dX11_wed_0 rfl (lv_at hl 0 rfl) ?_
  refine lv_iload_n hx hb dX11_wed_1 rfl (lv_at hl 1 rfl) ?_
  refine cr_V (As := [.int n]) (rest := []) hx hb hml hown hu hE (c_isNotice l E A σ M n) kX11_isNotice u957 (md_obj hM) rfl rfl (⟨hM, hI⟩) ⟨Nat.le_of_ble_eq_true rfl, Nat.le_of_ble_eq_true rfl⟩ rfl hl.1 rfl (Nat.le_of_ble_eq_true rfl) ⟨Nat.le_of_ble_eq_true rfl, Nat.le_of_ble_eq_true rfl⟩ dX11_wed_2 ?_
  refine onB (fun b1 => ?_) (fun b1 => ?_)
  · refine lv_if_eq (tgt := 74) hx hb dX11_wed_5 (by decide) (fun c2 => absurd c2 (by decide)) (fun _ => ?_)
    refine lv_aload_n hx hb dX11_wed_8 rfl (lv_at hl 0 rfl) ?_
    refine rd_get (k := 20) (v := .ref (M 20)) hx hb hown hu hE ok12 (md_obj hM) (by decide) u777 (fun _ h => h) rfl dX11_wed_9 ?_
    refine lv_iload_n hx hb dX11_wed_12 rfl (lv_at hl 1 rfl) ?_
    refine mr_ld (t := 20) hx hb hE hM rfl (by decide) (okN_in hI (isN_ok hI b1)) dX11_wed_13 ?_
    refine lv_if_ne (tgt := 74) hx hb dX11_wed_14 (by decide) (fun c3 => ?_) (fun c3 => ?_)
    · refine lv_iconst (v := (-1)) hx hb dX11_wed_74 (by decide) ?_
      exact ct_ri hx hb hr hlocks hS (by (have hB : (m_weBad σ n) = true := (by simp only [m_weBad, b1, decide_eq_false c3, Bool.not_true, Bool.not_false, Bool.and_true, Bool.true_and, Bool.and_false, Bool.false_and, Bool.or_true, Bool.true_or, Bool.or_false, Bool.false_or, Bool.and_self, Bool.or_self, eq_self, if_true, Bool.false_eq_true, if_false])); unfold m_wed; rw [hB]; exact ⟨rfl, hM⟩) (Nat.le_of_ble_eq_true rfl) (Nat.le_of_ble_eq_true rfl) dX11_wed_75
    · refine lv_aload_n hx hb dX11_wed_17 rfl (lv_at hl 0 rfl) ?_
      refine rd_get (k := 21) (v := .ref (M 21)) hx hb hown hu hE ok12 (md_obj hM) (by decide) u778 (fun _ h => h) rfl dX11_wed_18 ?_
      refine lv_iload_n hx hb dX11_wed_21 rfl (lv_at hl 1 rfl) ?_
      refine mr_ld (t := 21) hx hb hE hM rfl (by decide) (okN_in hI (isN_ok hI b1)) dX11_wed_22 ?_
      refine lv_aload_n hx hb dX11_wed_23 rfl (lv_at hl 0 rfl) ?_
      refine rd_get (k := 0) (v := .int (σ 0 0)) hx hb hown hu hE ok12 (md_obj hM) (by decide) u757 (fun _ h => h) rfl dX11_wed_24 ?_
      refine lv_icmp_ne (tgt := 74) hx hb dX11_wed_27 (by decide) (fun c4 => ?_) (fun c4 => ?_)
      · refine lv_iconst (v := (-1)) hx hb dX11_wed_74 (by decide) ?_
        exact ct_ri hx hb hr hlocks hS (by (have hB : (m_weBad σ n) = true := (by simp only [m_weBad, b1, decide_eq_true c3, decide_eq_false c4, Bool.not_true, Bool.not_false, Bool.and_true, Bool.true_and, Bool.and_false, Bool.false_and, Bool.or_true, Bool.true_or, Bool.or_false, Bool.false_or, Bool.and_self, Bool.or_self, eq_self, if_true, Bool.false_eq_true, if_false])); unfold m_wed; rw [hB]; exact ⟨rfl, hM⟩) (Nat.le_of_ble_eq_true rfl) (Nat.le_of_ble_eq_true rfl) dX11_wed_75
      · refine lv_aload_n hx hb dX11_wed_30 rfl (lv_at hl 0 rfl) ?_
        refine lv_aload_n hx hb dX11_wed_31 rfl (lv_at hl 0 rfl) ?_
        refine rd_get (k := 17) (v := .ref (M 17)) hx hb hown hu hE ok12 (md_obj hM) (by decide) u774 (fun _ h => h) rfl dX11_wed_32 ?_
        refine lv_iload_n hx hb dX11_wed_35 rfl (lv_at hl 1 rfl) ?_
        refine mr_ld (t := 17) hx hb hE hM rfl (by decide) (okN_in hI (isN_ok hI b1)) dX11_wed_36 ?_
        refine lv_aload_n hx hb dX11_wed_37 rfl (lv_at hl 0 rfl) ?_
        refine rd_get (k := 18) (v := .ref (M 18)) hx hb hown hu hE ok12 (md_obj hM) (by decide) u775 (fun _ h => h) rfl dX11_wed_38 ?_
        refine lv_iload_n hx hb dX11_wed_41 rfl (lv_at hl 1 rfl) ?_
        refine mr_ld (t := 18) hx hb hE hM rfl (by decide) (okN_in hI (isN_ok hI b1)) dX11_wed_42 ?_
        refine lv_aload_n hx hb dX11_wed_43 rfl (lv_at hl 0 rfl) ?_
        refine rd_get (k := 0) (v := .int (σ 0 0)) hx hb hown hu hE ok12 (md_obj hM) (by decide) u757 (fun _ h => h) rfl dX11_wed_44 ?_
        refine ct_V (As := [.int (gA σ 17 n), .int (gA σ 18 n), .int (σ 0 0)]) (rest := []) hx hb hml hown hu hE hZ hS (fun _ h => h) (fun q h => hA q (Nat.le_trans hS.1 h)) (c_stands l E A σ M (gA σ 17 n) (gA σ 18 n) (σ 0 0)) kX11_stands u925 (md_obj hM) rfl rfl (⟨hM, hI, ⟨one_ok hI (isN_ok hI b1), oth_ok hI (isN_ok hI b1)⟩⟩) ⟨Nat.le_of_ble_eq_true rfl, Nat.le_of_ble_eq_true rfl⟩ rfl hl.1 rfl (Nat.le_of_ble_eq_true rfl) ⟨Nat.le_of_ble_eq_true rfl, Nat.le_of_ble_eq_true rfl⟩ dX11_wed_47 (fun v5 H1 locs1 hR hS hz hk => ?_)
        obtain ⟨rfl, hM⟩ := hR
        refine lv_if_ne (tgt := 74) hx hb dX11_wed_50 (by decide) (fun c6 => ?_) (fun c6 => ?_)
        · refine lv_iconst (v := (-1)) hx hb dX11_wed_74 (by decide) ?_
          exact ct_ri hx hb hr hlocks hS (by (have hB : (m_weBad σ n) = true := (by simp only [m_weBad, b1, decide_eq_true c3, decide_eq_true c4, decide_eq_false c6, Bool.not_true, Bool.not_false, Bool.and_true, Bool.true_and, Bool.and_false, Bool.false_and, Bool.or_true, Bool.true_or, Bool.or_false, Bool.false_or, Bool.and_self, Bool.or_self, eq_self, if_true, Bool.false_eq_true, if_false])); unfold m_wed; rw [hB]; exact ⟨rfl, hM⟩) (Nat.le_of_ble_eq_true rfl) (Nat.le_of_ble_eq_true rfl) dX11_wed_75
        · refine lv_aload_n hx hb dX11_wed_53 rfl (lv_at hl 0 rfl) ?_
          refine lv_iload_n hx hb dX11_wed_54 rfl (lv_at hl 1 rfl) ?_
          refine lv_aload_n hx hb dX11_wed_55 rfl (lv_at hl 0 rfl) ?_
          refine rd_get (k := 0) (v := .int (σ 0 0)) hx hb hown hu hE ok12 (md_obj hM) (by decide) u757 (fun _ h => h) rfl dX11_wed_56 ?_
          refine ct_V (As := [.int n, .int (σ 0 0)]) (rest := []) hx hb hml hown hu hE hZ hS (fun _ h => h) (fun q h => hA q (Nat.le_trans hS.1 h)) (c_isRipe l E A σ M n (σ 0 0)) kX11_isRipe u1002 (md_obj hM) rfl rfl (⟨hM, hI, ⟨isN_ok hI b1, okD_n hI⟩⟩) ⟨Nat.le_of_ble_eq_true rfl, Nat.le_of_ble_eq_true rfl⟩ rfl hl.1 rfl (Nat.le_of_ble_eq_true rfl) ⟨Nat.le_of_ble_eq_true rfl, Nat.le_of_ble_eq_true rfl⟩ dX11_wed_59 (fun v7 H1 locs1 hR hS hz hk => ?_)
          obtain ⟨rfl, hM⟩ := hR
          refine onB (fun b8 => ?_) (fun b8 => ?_)
          · refine lv_if_eq (tgt := 74) hx hb dX11_wed_62 (by decide) (fun c9 => absurd c9 (by decide)) (fun _ => ?_)
            refine lv_aload_n hx hb dX11_wed_65 rfl (lv_at hl 0 rfl) ?_
            refine rd_get (k := 30) (v := .int (σ 30 0)) hx hb hown hu hE ok12 (md_obj hM) (by decide) u787 (fun _ h => h) rfl dX11_wed_66 ?_
            refine lv_bipush (v := 60) hx hb dX11_wed_69 (by decide) ?_
            refine lv_icmp_ne (tgt := 76) hx hb dX11_wed_71 (by decide) (fun c10 => ?_) (fun c10 => ?_)
            · refine lv_aload_n hx hb dX11_wed_76 rfl (lv_at hl 0 rfl) ?_
              refine rd_get (k := 17) (v := .ref (M 17)) hx hb hown hu hE ok12 (md_obj hM) (by decide) u774 (fun _ h => h) rfl dX11_wed_77 ?_
              refine lv_iload_n hx hb dX11_wed_80 rfl (lv_at hl 1 rfl) ?_
              refine mr_ld (t := 17) hx hb hE hM rfl (by decide) (okN_in hI (isN_ok hI b1)) dX11_wed_81 ?_
              refine lv_istore_n (lv' := [(2, .int (gA σ 17 n)), (0, .ref (M 0)), (1, .int n)]) hx hb dX11_wed_82 rfl hl (by decide) rfl (fun ls hl => ?_)
              refine lv_aload_n hx hb dX11_wed_83 rfl (lv_at hl 1 rfl) ?_
              refine rd_get (k := 18) (v := .ref (M 18)) hx hb hown hu hE ok12 (md_obj hM) (by decide) u775 (fun _ h => h) rfl dX11_wed_84 ?_
              refine lv_iload_n hx hb dX11_wed_87 rfl (lv_at hl 2 rfl) ?_
              refine mr_ld (t := 18) hx hb hE hM rfl (by decide) (okN_in hI (isN_ok hI b1)) dX11_wed_88 ?_
              refine lv_istore_n (lv' := [(3, .int (gA σ 18 n)), (2, .int (gA σ 17 n)), (0, .ref (M 0)), (1, .int n)]) hx hb dX11_wed_89 rfl hl (by decide) rfl (fun ls hl => ?_)
              refine lv_aload_n hx hb dX11_wed_90 rfl (lv_at hl 2 rfl) ?_
              refine rd_get (k := 10) (v := .ref (M 10)) hx hb hown hu hE ok12 (md_obj hM) (by decide) u767 (fun _ h => h) rfl dX11_wed_91 ?_
              refine lv_iload_n hx hb dX11_wed_94 rfl (lv_at hl 1 rfl) ?_
              refine lv_iload_n hx hb dX11_wed_95 rfl (lv_at hl 0 rfl) ?_
              refine mr_st (t := 10) hx hb hE hS hM rfl (by decide) (okP_in hI (one_ok hI (isN_ok hI b1))) dX11_wed_96 (fun H1 locs1 hM hS => ?_)
              refine lv_aload_n hx hb dX11_wed_97 rfl (lv_at hl 2 rfl) ?_
              refine rd_get (k := 10) (v := .ref (M 10)) hx hb hown hu hE ok12 (md_obj hM) (by decide) u767 (fun _ h => h) rfl dX11_wed_98 ?_
              refine lv_iload_n hx hb dX11_wed_101 rfl (lv_at hl 0 rfl) ?_
              refine lv_iload_n hx hb dX11_wed_102 rfl (lv_at hl 1 rfl) ?_
              refine mr_st (t := 10) hx hb hE hS hM rfl (by decide) (okP_in hI (oth_ok hI (isN_ok hI b1))) dX11_wed_103 (fun H1 locs1 hM hS => ?_)
              refine lv_aload_n hx hb dX11_wed_104 rfl (lv_at hl 2 rfl) ?_
              refine rd_get (k := 20) (v := .ref (M 20)) hx hb hown hu hE ok12 (md_obj hM) (by decide) u777 (fun _ h => h) rfl dX11_wed_105 ?_
              refine lv_iload_n hx hb dX11_wed_108 rfl (lv_at hl 3 rfl) ?_
              refine lv_iconst (v := 1) hx hb dX11_wed_109 (by decide) ?_
              refine mr_st (t := 20) hx hb hE hS hM rfl (by decide) (okN_in hI (isN_ok hI b1)) dX11_wed_110 (fun H1 locs1 hM hS => ?_)
              refine lv_aload_n hx hb dX11_wed_111 rfl (lv_at hl 2 rfl) ?_
              refine rd_get (k := 29) (v := .ref (M 29)) hx hb hown hu hE ok12 (md_obj hM) (by decide) u786 (fun _ h => h) rfl dX11_wed_112 ?_
              refine lv_aload_n hx hb dX11_wed_115 rfl (lv_at hl 2 rfl) ?_
              refine rd_get (k := 30) (v := .int (σ 30 0)) hx hb hown hu hE ok12 (md_obj hM) (by decide) u787 (fun _ h => h) rfl dX11_wed_116 ?_
              refine mr_re hx hb hE hM (cnt_in (N := 60) hI.1.2.2.2.2.2.2.2.1 rfl c10) dX11_wed_119 ?_
              refine lv_astore (lv' := [(4, .ref (M (200 + (σ 30 0).toNatClampNeg))), (3, .int (gA σ 18 n)), (2, .int (gA σ 17 n)), (0, .ref (M 0)), (1, .int n)]) hx hb dX11_wed_120 hl (by decide) rfl (fun ls hl => ?_)
              refine lv_aload hx hb dX11_wed_122 (lv_at hl 0 rfl) ?_
              refine lv_iconst (v := 0) hx hb dX11_wed_124 (by decide) ?_
              refine lv_aload_n hx hb dX11_wed_125 rfl (lv_at hl 3 rfl) ?_
              refine rd_get (k := 0) (v := .int (σ 0 0)) hx hb hown hu hE ok12 (md_obj hM) (by decide) u757 (fun _ h => h) rfl dX11_wed_126 ?_
              refine mr_stl (jn := 0) hx hb hE hS hM (mint_e (vi_lt (cnt_in (N := 60) hI.1.2.2.2.2.2.2.2.1 rfl c10))) (by unfold vp_in; decide) rfl dX11_wed_129 (fun H1 locs1 hM hS => ?_)
              refine lv_aload hx hb dX11_wed_130 (lv_at hl 0 rfl) ?_
              refine lv_iconst (v := 1) hx hb dX11_wed_132 (by decide) ?_
              refine lv_aload_n hx hb dX11_wed_133 rfl (lv_at hl 3 rfl) ?_
              refine rd_get (k := 9) (v := .ref (M 9)) hx hb hown hu hE ok12 (md_obj hM) (by decide) u766 (fun _ h => h) rfl dX11_wed_134 ?_
              refine lv_iload_n hx hb dX11_wed_137 rfl (lv_at hl 2 rfl) ?_
              refine mr_ld (t := 9) hx hb hE hM rfl (by decide) (okP_in hI (one_ok hI (isN_ok hI b1))) dX11_wed_138 ?_
              simp only [gA_lt (show 9 < 200 + (σ 30 0).toNatClampNeg by omega)]
              refine mr_stl (jn := 1) hx hb hE hS hM (mint_e (vi_lt (cnt_in (N := 60) hI.1.2.2.2.2.2.2.2.1 rfl c10))) (by unfold vp_in; decide) rfl dX11_wed_139 (fun H1 locs1 hM hS => ?_)
              refine lv_aload hx hb dX11_wed_140 (lv_at hl 0 rfl) ?_
              refine lv_iconst (v := 2) hx hb dX11_wed_142 (by decide) ?_
              refine lv_aload_n hx hb dX11_wed_143 rfl (lv_at hl 3 rfl) ?_
              refine rd_get (k := 9) (v := .ref (M 9)) hx hb hown hu hE ok12 (md_obj hM) (by decide) u766 (fun _ h => h) rfl dX11_wed_144 ?_
              refine lv_iload_n hx hb dX11_wed_147 rfl (lv_at hl 1 rfl) ?_
              refine mr_ld (t := 9) hx hb hE hM rfl (by decide) (okP_in hI (oth_ok hI (isN_ok hI b1))) dX11_wed_148 ?_
              simp only [gA_lt (show 9 < 200 + (σ 30 0).toNatClampNeg by omega)]
              refine mr_stl (jn := 2) hx hb hE hS hM (mint_e (vi_lt (cnt_in (N := 60) hI.1.2.2.2.2.2.2.2.1 rfl c10))) (by unfold vp_in; decide) rfl dX11_wed_149 (fun H1 locs1 hM hS => ?_)
              refine lv_aload hx hb dX11_wed_150 (lv_at hl 0 rfl) ?_
              refine lv_iconst (v := 3) hx hb dX11_wed_152 (by decide) ?_
              refine lv_aload_n hx hb dX11_wed_153 rfl (lv_at hl 3 rfl) ?_
              refine rd_get (k := 22) (v := .ref (M 22)) hx hb hown hu hE ok12 (md_obj hM) (by decide) u779 (fun _ h => h) rfl dX11_wed_154 ?_
              refine lv_iload_n hx hb dX11_wed_157 rfl (lv_at hl 4 rfl) ?_
              refine mr_ld (t := 22) hx hb hE hM rfl (by decide) (okN_in hI (isN_ok hI b1)) dX11_wed_158 ?_
              simp only [gA_lt (show 22 < 200 + (σ 30 0).toNatClampNeg by omega)]
              refine lv_bipush (v := 10) hx hb dX11_wed_159 (by decide) ?_
              refine lv_idiv hx hb dX11_wed_161 (by decide) ?_
              refine lv_bipush (v := 10) hx hb dX11_wed_162 (by decide) ?_
              refine lv_irem hx hb dX11_wed_164 (by decide) ?_
              refine mr_stl (jn := 3) hx hb hE hS hM (mint_e (vi_lt (cnt_in (N := 60) hI.1.2.2.2.2.2.2.2.1 rfl c10))) (by unfold vp_in; decide) rfl dX11_wed_165 (fun H1 locs1 hM hS => ?_)
              refine lv_aload hx hb dX11_wed_166 (lv_at hl 0 rfl) ?_
              refine lv_iconst (v := 4) hx hb dX11_wed_168 (by decide) ?_
              refine lv_aload_n hx hb dX11_wed_169 rfl (lv_at hl 3 rfl) ?_
              refine rd_get (k := 22) (v := .ref (M 22)) hx hb hown hu hE ok12 (md_obj hM) (by decide) u779 (fun _ h => h) rfl dX11_wed_170 ?_
              refine lv_iload_n hx hb dX11_wed_173 rfl (lv_at hl 4 rfl) ?_
              refine mr_ld (t := 22) hx hb hE hM rfl (by decide) (okN_in hI (isN_ok hI b1)) dX11_wed_174 ?_
              simp only [gA_lt (show 22 < 200 + (σ 30 0).toNatClampNeg by omega)]
              refine lv_bipush (v := 10) hx hb dX11_wed_175 (by decide) ?_
              refine lv_irem hx hb dX11_wed_177 (by decide) ?_
              refine mr_stl (jn := 4) hx hb hE hS hM (mint_e (vi_lt (cnt_in (N := 60) hI.1.2.2.2.2.2.2.2.1 rfl c10))) (by unfold vp_in; decide) rfl dX11_wed_178 (fun H1 locs1 hM hS => ?_)
              refine lv_aload hx hb dX11_wed_179 (lv_at hl 0 rfl) ?_
              refine lv_iconst (v := 5) hx hb dX11_wed_181 (by decide) ?_
              refine lv_iload_n hx hb dX11_wed_182 rfl (lv_at hl 2 rfl) ?_
              refine mr_stl (jn := 5) hx hb hE hS hM (mint_e (vi_lt (cnt_in (N := 60) hI.1.2.2.2.2.2.2.2.1 rfl c10))) (by unfold vp_in; decide) rfl dX11_wed_183 (fun H1 locs1 hM hS => ?_)
              refine lv_aload hx hb dX11_wed_184 (lv_at hl 0 rfl) ?_
              refine lv_bipush (v := 6) hx hb dX11_wed_186 (by decide) ?_
              refine lv_iload_n hx hb dX11_wed_188 rfl (lv_at hl 1 rfl) ?_
              refine mr_stl (jn := 6) hx hb hE hS hM (mint_e (vi_lt (cnt_in (N := 60) hI.1.2.2.2.2.2.2.2.1 rfl c10))) (by unfold vp_in; decide) rfl dX11_wed_189 (fun H1 locs1 hM hS => ?_)
              refine lv_aload hx hb dX11_wed_190 (lv_at hl 0 rfl) ?_
              refine lv_bipush (v := 7) hx hb dX11_wed_192 (by decide) ?_
              refine lv_iload_n hx hb dX11_wed_194 rfl (lv_at hl 4 rfl) ?_
              refine mr_stl (jn := 7) hx hb hE hS hM (mint_e (vi_lt (cnt_in (N := 60) hI.1.2.2.2.2.2.2.2.1 rfl c10))) (by unfold vp_in; decide) rfl dX11_wed_195 (fun H1 locs1 hM hS => ?_)
              refine lv_aload_n hx hb dX11_wed_196 rfl (lv_at hl 3 rfl) ?_
              refine lv_dup hx hb dX11_wed_197 rfl ?_
              refine rd_get (k := 30) (v := .int (σ 30 0)) hx hb hown hu hE ok12 (md_obj hM) (by decide) u787 (fun _ h => h) (by show some (Value.int _) = _; simp only [sA_lt (show 30 < 200 + (σ 30 0).toNatClampNeg by omega)]; rfl) dX11_wed_198 ?_
              refine lv_iconst (v := 1) hx hb dX11_wed_201 (by decide) ?_
              refine lv_iadd hx hb dX11_wed_202 ?_
              refine mr_put (k := 30) (x := (σ 30 0) + 1) hx hb hown hu hE hS hM rfl (by decide) u787 rfl rfl rfl dX11_wed_203 (fun H1 locs1 hM hS => ?_)
              refine lv_aload_n hx hb dX11_wed_206 rfl (lv_at hl 3 rfl) ?_
              refine rd_get (k := 30) (v := .int ((σ 30 0) + 1)) hx hb hown hu hE ok12 (md_obj hM) (by decide) u787 (fun _ h => h) rfl dX11_wed_207 ?_
              refine lv_iconst (v := 1) hx hb dX11_wed_210 (by decide) ?_
              refine lv_isub hx hb dX11_wed_211 ?_
              exact ct_ri hx hb hr hlocks hS (by (have hB : (m_weBad σ n) = false := (by simp only [m_weBad, b1, decide_eq_true c3, decide_eq_true c4, decide_eq_true c6, b8, decide_eq_false c10, Bool.not_true, Bool.not_false, Bool.and_true, Bool.true_and, Bool.and_false, Bool.false_and, Bool.or_true, Bool.true_or, Bool.or_false, Bool.false_or, Bool.and_self, Bool.or_self, eq_self, if_true, Bool.false_eq_true, if_false])); unfold m_wed; rw [hB]; exact ⟨rfl, hM⟩) (Nat.le_of_ble_eq_true rfl) (Nat.le_of_ble_eq_true rfl) dX11_wed_212
            · refine lv_iconst (v := (-1)) hx hb dX11_wed_74 (by decide) ?_
              exact ct_ri hx hb hr hlocks hS (by (have hB : (m_weBad σ n) = true := (by simp only [m_weBad, b1, decide_eq_true c3, decide_eq_true c4, decide_eq_true c6, b8, decide_eq_true c10, Bool.not_true, Bool.not_false, Bool.and_true, Bool.true_and, Bool.and_false, Bool.false_and, Bool.or_true, Bool.true_or, Bool.or_false, Bool.false_or, Bool.and_self, Bool.or_self, eq_self, if_true, Bool.false_eq_true, if_false])); unfold m_wed; rw [hB]; exact ⟨rfl, hM⟩) (Nat.le_of_ble_eq_true rfl) (Nat.le_of_ble_eq_true rfl) dX11_wed_75
          · refine lv_if_eq (tgt := 74) hx hb dX11_wed_62 (by decide) (fun _ => ?_) (fun c11 => absurd (by decide) c11)
            refine lv_iconst (v := (-1)) hx hb dX11_wed_74 (by decide) ?_
            exact ct_ri hx hb hr hlocks hS (by (have hB : (m_weBad σ n) = true := (by simp only [m_weBad, b1, decide_eq_true c3, decide_eq_true c4, decide_eq_true c6, b8, Bool.not_true, Bool.not_false, Bool.and_true, Bool.true_and, Bool.and_false, Bool.false_and, Bool.or_true, Bool.true_or, Bool.or_false, Bool.false_or, Bool.and_self, Bool.or_self, eq_self, if_true, Bool.false_eq_true, if_false])); unfold m_wed; rw [hB]; exact ⟨rfl, hM⟩) (Nat.le_of_ble_eq_true rfl) (Nat.le_of_ble_eq_true rfl) dX11_wed_75
  · refine lv_if_eq (tgt := 74) hx hb dX11_wed_5 (by decide) (fun _ => ?_) (fun c12 => absurd (by decide) c12)
    refine lv_iconst (v := (-1)) hx hb dX11_wed_74 (by decide) ?_
    exact ct_ri hx hb hr hlocks hS (by (have hB : (m_weBad σ n) = true := (by simp only [m_weBad, b1, Bool.not_true, Bool.not_false, Bool.and_true, Bool.true_and, Bool.and_false, Bool.false_and, Bool.or_true, Bool.true_or, Bool.or_false, Bool.false_or, Bool.and_self, Bool.or_self, eq_self, if_true, Bool.false_eq_true, if_false])); unfold m_wed; rw [hB]; exact ⟨rfl, hM⟩) (Nat.le_of_ble_eq_true rfl) (Nat.le_of_ble_eq_true rfl) dX11_wed_75
set_option maxHeartbeats 1000000 in
set_option maxRecDepth 20000 in
theorem c_part (l : Launch) (E : EV) (A : Nat → Prop) (σ : St) (M : Nat → Nat) (q : Int32) : Ct l E yX11_part cX11_part 2 (some .boolean) 2 43 0 0 A [.ref (M 0), .int q] (fun H => Md E A σ M H ∧ InvM σ) (fun v H => v = some (.int (m_part σ q).1) ∧ Md E A (m_part σ q).2 M H) := by
  refine Ct.of (by decide +kernel) (Nat.le_of_ble_eq_true rfl) (fun pg ev s mi bel mth cd hx hb hr hml hown hu hlocks hnm hE hP hA hZ ls hl => ?_)
  have hl : lv_has ls 2 [(0, .ref (M 0)), (1, .int q)] := hl
  have hS : va_S A s.heap s.heap [] := va_S.rf
  obtain ⟨hM, hI⟩ := hP
  refine lv_aload_n hx hb dX11_part_0 rfl (lv_at hl 0 rfl) ?_
  refine lv_iload_n hx hb dX11_part_1 rfl (lv_at hl 1 rfl) ?_
  refine cr_V (As := [.int q]) (rest := []) hx hb hml hown hu hE (c_isPerson l E A σ M q) kX11_isPerson u880 (md_obj hM) rfl rfl (⟨hM, hI⟩) ⟨Nat.le_of_ble_eq_true rfl, Nat.le_of_ble_eq_true rfl⟩ rfl hl.1 rfl (Nat.le_of_ble_eq_true rfl) ⟨Nat.le_of_ble_eq_true rfl, Nat.le_of_ble_eq_true rfl⟩ dX11_part_2 ?_
  refine onB (fun b1 => ?_) (fun b1 => ?_)
  · refine lv_if_eq (tgt := 18) hx hb dX11_part_5 (by decide) (fun c2 => absurd c2 (by decide)) (fun _ => ?_)
    refine lv_aload_n hx hb dX11_part_8 rfl (lv_at hl 0 rfl) ?_
    refine rd_get (k := 10) (v := .ref (M 10)) hx hb hown hu hE ok12 (md_obj hM) (by decide) u767 (fun _ h => h) rfl dX11_part_9 ?_
    refine lv_iload_n hx hb dX11_part_12 rfl (lv_at hl 1 rfl) ?_
    refine mr_ld (t := 10) hx hb hE hM rfl (by decide) (okP_in hI (isP_ok hI b1)) dX11_part_13 ?_
    refine lv_iconst (v := (-1)) hx hb dX11_part_14 (by decide) ?_
    refine lv_icmp_ne (tgt := 20) hx hb dX11_part_15 (by decide) (fun c3 => ?_) (fun c3 => ?_)
    · refine lv_aload_n hx hb dX11_part_20 rfl (lv_at hl 0 rfl) ?_
      refine rd_get (k := 10) (v := .ref (M 10)) hx hb hown hu hE ok12 (md_obj hM) (by decide) u767 (fun _ h => h) rfl dX11_part_21 ?_
      refine lv_aload_n hx hb dX11_part_24 rfl (lv_at hl 0 rfl) ?_
      refine rd_get (k := 10) (v := .ref (M 10)) hx hb hown hu hE ok12 (md_obj hM) (by decide) u767 (fun _ h => h) rfl dX11_part_25 ?_
      refine lv_iload_n hx hb dX11_part_28 rfl (lv_at hl 1 rfl) ?_
      refine mr_ld (t := 10) hx hb hE hM rfl (by decide) (okP_in hI (isP_ok hI b1)) dX11_part_29 ?_
      refine lv_iconst (v := (-1)) hx hb dX11_part_30 (by decide) ?_
      refine mr_st (t := 10) hx hb hE hS hM rfl (by decide) (okP_in hI (okPN_of (sp_ok hI (isP_ok hI b1)) c3)) dX11_part_31 (fun H1 locs1 hM hS => ?_)
      refine lv_aload_n hx hb dX11_part_32 rfl (lv_at hl 0 rfl) ?_
      refine rd_get (k := 10) (v := .ref (M 10)) hx hb hown hu hE ok12 (md_obj hM) (by decide) u767 (fun _ h => h) rfl dX11_part_33 ?_
      refine lv_iload_n hx hb dX11_part_36 rfl (lv_at hl 1 rfl) ?_
      refine lv_iconst (v := (-1)) hx hb dX11_part_37 (by decide) ?_
      refine mr_st (t := 10) hx hb hE hS hM rfl (by decide) (okP_in hI (isP_ok hI b1)) dX11_part_38 (fun H1 locs1 hM hS => ?_)
      refine lv_iconst (v := 1) hx hb dX11_part_39 (by decide) ?_
      exact ct_rz hx hb hr hlocks hS (by (have hB : (m_paBad σ q) = false := (by simp only [m_paBad, b1, decide_eq_false c3, Bool.not_true, Bool.not_false, Bool.and_true, Bool.true_and, Bool.and_false, Bool.false_and, Bool.or_true, Bool.true_or, Bool.or_false, Bool.false_or, Bool.and_self, Bool.or_self, eq_self, if_true, Bool.false_eq_true, if_false])); unfold m_part; rw [hB]; exact ⟨rfl, hM⟩) (rfl) (Nat.le_of_ble_eq_true rfl) (Nat.le_of_ble_eq_true rfl) dX11_part_40
    · refine lv_iconst (v := 0) hx hb dX11_part_18 (by decide) ?_
      exact ct_rz hx hb hr hlocks hS (by (have hB : (m_paBad σ q) = true := (by simp only [m_paBad, b1, decide_eq_true c3, Bool.not_true, Bool.not_false, Bool.and_true, Bool.true_and, Bool.and_false, Bool.false_and, Bool.or_true, Bool.true_or, Bool.or_false, Bool.false_or, Bool.and_self, Bool.or_self, eq_self, if_true, Bool.false_eq_true, if_false])); unfold m_part; rw [hB]; exact ⟨rfl, hM⟩) (rfl) (Nat.le_of_ble_eq_true rfl) (Nat.le_of_ble_eq_true rfl) dX11_part_19
  · refine lv_if_eq (tgt := 18) hx hb dX11_part_5 (by decide) (fun _ => ?_) (fun c4 => absurd (by decide) c4)
    refine lv_iconst (v := 0) hx hb dX11_part_18 (by decide) ?_
    exact ct_rz hx hb hr hlocks hS (by (have hB : (m_paBad σ q) = true := (by simp only [m_paBad, b1, Bool.not_true, Bool.not_false, Bool.and_true, Bool.true_and, Bool.and_false, Bool.false_and, Bool.or_true, Bool.true_or, Bool.or_false, Bool.false_or, Bool.and_self, Bool.or_self, eq_self, if_true, Bool.false_eq_true, if_false])); unfold m_part; rw [hB]; exact ⟨rfl, hM⟩) (rfl) (Nat.le_of_ble_eq_true rfl) (Nat.le_of_ble_eq_true rfl) dX11_part_19
set_option maxHeartbeats 1000000 in
set_option maxRecDepth 20000 in
theorem c_correct (l : Launch) (E : EV) (A : Nat → Prop) (σ : St) (M : Nat → Nat) (en f vl : Int32) : Ct l E yX11_correct cX11_correct 4 (some .boolean) 1 22 0 0 A [.ref (M 0), .int en, .int f, .int vl] (fun H => Md E A σ M H ∧ InvM σ) (fun v H => v = some (.int (m_correct σ en f vl).1) ∧ Md E A (m_correct σ en f vl).2 M H) := by
  refine Ct.of (by decide +kernel) (Nat.le_of_ble_eq_true rfl) (fun pg ev s mi bel mth cd hx hb hr hml hown hu hlocks hnm hE hP hA hZ ls hl => ?_)
  have hl : lv_has ls 4 [(0, .ref (M 0)), (1, .int en), (2, .int f), (3, .int vl)] := hl
  have hS : va_S A s.heap s.heap [] := va_S.rf
  obtain ⟨hM, hI⟩ := hP
  refine lv_iload_n hx hb dX11_correct_0 rfl (lv_at hl 1 rfl) ?_
  refine lv_iconst (v := 0) hx hb dX11_correct_1 (by decide) ?_
  refine lv_aload_n hx hb dX11_correct_2 rfl (lv_at hl 0 rfl) ?_
  refine rd_get (k := 30) (v := .int (σ 30 0)) hx hb hown hu hE ok12 (md_obj hM) (by decide) u787 (fun _ h => h) rfl dX11_correct_3 ?_
  refine lv_iconst (v := 1) hx hb dX11_correct_6 (by decide) ?_
  refine lv_isub hx hb dX11_correct_7 ?_
  refine cr_S (As := [.int en, .int 0, .int ((σ 30 0) - 1)]) (rest := []) hx hb hml hown hu hE (c_in l E en 0 ((σ 30 0) - 1)) kX11_in u873 (trivial) ⟨Nat.le_of_ble_eq_true rfl, Nat.le_of_ble_eq_true rfl⟩ rfl hl.1 rfl (Nat.le_of_ble_eq_true rfl) ⟨Nat.le_of_ble_eq_true rfl, Nat.le_of_ble_eq_true rfl⟩ dX11_correct_8 ?_
  refine onB (fun b1 => ?_) (fun b1 => ?_)
  · refine lv_if_eq (tgt := 43) hx hb dX11_correct_11 (by decide) (fun c2 => absurd c2 (by decide)) (fun _ => ?_)
    refine lv_iload_n hx hb dX11_correct_14 rfl (lv_at hl 2 rfl) ?_
    refine lv_iconst (v := 0) hx hb dX11_correct_15 (by decide) ?_
    refine lv_iconst (v := 4) hx hb dX11_correct_16 (by decide) ?_
    refine cr_S (As := [.int f, .int 0, .int 4]) (rest := []) hx hb hml hown hu hE (c_in l E f 0 4) kX11_in u873 (trivial) ⟨Nat.le_of_ble_eq_true rfl, Nat.le_of_ble_eq_true rfl⟩ rfl hl.1 rfl (Nat.le_of_ble_eq_true rfl) ⟨Nat.le_of_ble_eq_true rfl, Nat.le_of_ble_eq_true rfl⟩ dX11_correct_17 ?_
    refine onB (fun b3 => ?_) (fun b3 => ?_)
    · refine lv_if_eq (tgt := 43) hx hb dX11_correct_20 (by decide) (fun c4 => absurd c4 (by decide)) (fun _ => ?_)
      refine lv_iload_n hx hb dX11_correct_23 rfl (lv_at hl 3 rfl) ?_
      refine lv_iconst (v := 0) hx hb dX11_correct_24 (by decide) ?_
      refine lv_sipush (v := 20000) hx hb dX11_correct_25 (by decide) ?_
      refine cr_S (As := [.int vl, .int 0, .int 20000]) (rest := []) hx hb hml hown hu hE (c_in l E vl 0 20000) kX11_in u873 (trivial) ⟨Nat.le_of_ble_eq_true rfl, Nat.le_of_ble_eq_true rfl⟩ rfl hl.1 rfl (Nat.le_of_ble_eq_true rfl) ⟨Nat.le_of_ble_eq_true rfl, Nat.le_of_ble_eq_true rfl⟩ dX11_correct_28 ?_
      refine onB (fun b5 => ?_) (fun b5 => ?_)
      · refine lv_if_eq (tgt := 43) hx hb dX11_correct_31 (by decide) (fun c6 => absurd c6 (by decide)) (fun _ => ?_)
        refine lv_aload_n hx hb dX11_correct_34 rfl (lv_at hl 0 rfl) ?_
        refine rd_get (k := 35) (v := .int (σ 35 0)) hx hb hown hu hE ok12 (md_obj hM) (by decide) u792 (fun _ h => h) rfl dX11_correct_35 ?_
        refine lv_bipush (v := 100) hx hb dX11_correct_38 (by decide) ?_
        refine lv_icmp_ne (tgt := 45) hx hb dX11_correct_40 (by decide) (fun c7 => ?_) (fun c7 => ?_)
        · refine lv_aload_n hx hb dX11_correct_45 rfl (lv_at hl 0 rfl) ?_
          refine rd_get (k := 31) (v := .ref (M 31)) hx hb hown hu hE ok12 (md_obj hM) (by decide) u788 (fun _ h => h) rfl dX11_correct_46 ?_
          refine lv_aload_n hx hb dX11_correct_49 rfl (lv_at hl 0 rfl) ?_
          refine rd_get (k := 35) (v := .int (σ 35 0)) hx hb hown hu hE ok12 (md_obj hM) (by decide) u792 (fun _ h => h) rfl dX11_correct_50 ?_
          refine lv_iload_n hx hb dX11_correct_53 rfl (lv_at hl 1 rfl) ?_
          refine mr_st (t := 31) hx hb hE hS hM rfl (by decide) (cnt_in (N := 100) hI.1.2.2.2.2.2.2.2.2 rfl c7) dX11_correct_54 (fun H1 locs1 hM hS => ?_)
          refine lv_aload_n hx hb dX11_correct_55 rfl (lv_at hl 0 rfl) ?_
          refine rd_get (k := 32) (v := .ref (M 32)) hx hb hown hu hE ok12 (md_obj hM) (by decide) u789 (fun _ h => h) rfl dX11_correct_56 ?_
          refine lv_aload_n hx hb dX11_correct_59 rfl (lv_at hl 0 rfl) ?_
          refine rd_get (k := 35) (v := .int (σ 35 0)) hx hb hown hu hE ok12 (md_obj hM) (by decide) u792 (fun _ h => h) rfl dX11_correct_60 ?_
          refine lv_iload_n hx hb dX11_correct_63 rfl (lv_at hl 2 rfl) ?_
          refine mr_st (t := 32) hx hb hE hS hM rfl (by decide) (cnt_in (N := 100) hI.1.2.2.2.2.2.2.2.2 rfl c7) dX11_correct_64 (fun H1 locs1 hM hS => ?_)
          refine lv_aload_n hx hb dX11_correct_65 rfl (lv_at hl 0 rfl) ?_
          refine rd_get (k := 33) (v := .ref (M 33)) hx hb hown hu hE ok12 (md_obj hM) (by decide) u790 (fun _ h => h) rfl dX11_correct_66 ?_
          refine lv_aload_n hx hb dX11_correct_69 rfl (lv_at hl 0 rfl) ?_
          refine rd_get (k := 35) (v := .int (σ 35 0)) hx hb hown hu hE ok12 (md_obj hM) (by decide) u792 (fun _ h => h) rfl dX11_correct_70 ?_
          refine lv_iload_n hx hb dX11_correct_73 rfl (lv_at hl 3 rfl) ?_
          refine mr_st (t := 33) hx hb hE hS hM rfl (by decide) (cnt_in (N := 100) hI.1.2.2.2.2.2.2.2.2 rfl c7) dX11_correct_74 (fun H1 locs1 hM hS => ?_)
          refine lv_aload_n hx hb dX11_correct_75 rfl (lv_at hl 0 rfl) ?_
          refine rd_get (k := 34) (v := .ref (M 34)) hx hb hown hu hE ok12 (md_obj hM) (by decide) u791 (fun _ h => h) rfl dX11_correct_76 ?_
          refine lv_aload_n hx hb dX11_correct_79 rfl (lv_at hl 0 rfl) ?_
          refine rd_get (k := 35) (v := .int (σ 35 0)) hx hb hown hu hE ok12 (md_obj hM) (by decide) u792 (fun _ h => h) rfl dX11_correct_80 ?_
          refine lv_aload_n hx hb dX11_correct_83 rfl (lv_at hl 0 rfl) ?_
          refine rd_get (k := 0) (v := .int (σ 0 0)) hx hb hown hu hE ok12 (md_obj hM) (by decide) u757 (fun _ h => h) rfl dX11_correct_84 ?_
          refine mr_st (t := 34) hx hb hE hS hM rfl (by decide) (cnt_in (N := 100) hI.1.2.2.2.2.2.2.2.2 rfl c7) dX11_correct_87 (fun H1 locs1 hM hS => ?_)
          refine lv_aload_n hx hb dX11_correct_88 rfl (lv_at hl 0 rfl) ?_
          refine lv_dup hx hb dX11_correct_89 rfl ?_
          refine rd_get (k := 35) (v := .int (σ 35 0)) hx hb hown hu hE ok12 (md_obj hM) (by decide) u792 (fun _ h => h) rfl dX11_correct_90 ?_
          refine lv_iconst (v := 1) hx hb dX11_correct_93 (by decide) ?_
          refine lv_iadd hx hb dX11_correct_94 ?_
          refine mr_put (k := 35) (x := (σ 35 0) + 1) hx hb hown hu hE hS hM rfl (by decide) u792 rfl rfl rfl dX11_correct_95 (fun H1 locs1 hM hS => ?_)
          refine lv_iconst (v := 1) hx hb dX11_correct_98 (by decide) ?_
          exact ct_rz hx hb hr hlocks hS (by (have hB : (m_coBad σ en f vl) = false := (by simp only [m_coBad, b1, b3, b5, decide_eq_false c7, Bool.not_true, Bool.not_false, Bool.and_true, Bool.true_and, Bool.and_false, Bool.false_and, Bool.or_true, Bool.true_or, Bool.or_false, Bool.false_or, Bool.and_self, Bool.or_self, eq_self, if_true, Bool.false_eq_true, if_false])); unfold m_correct; rw [hB]; exact ⟨rfl, hM⟩) (rfl) (Nat.le_of_ble_eq_true rfl) (Nat.le_of_ble_eq_true rfl) dX11_correct_99
        · refine lv_iconst (v := 0) hx hb dX11_correct_43 (by decide) ?_
          exact ct_rz hx hb hr hlocks hS (by (have hB : (m_coBad σ en f vl) = true := (by simp only [m_coBad, b1, b3, b5, decide_eq_true c7, Bool.not_true, Bool.not_false, Bool.and_true, Bool.true_and, Bool.and_false, Bool.false_and, Bool.or_true, Bool.true_or, Bool.or_false, Bool.false_or, Bool.and_self, Bool.or_self, eq_self, if_true, Bool.false_eq_true, if_false])); unfold m_correct; rw [hB]; exact ⟨rfl, hM⟩) (rfl) (Nat.le_of_ble_eq_true rfl) (Nat.le_of_ble_eq_true rfl) dX11_correct_44
      · refine lv_if_eq (tgt := 43) hx hb dX11_correct_31 (by decide) (fun _ => ?_) (fun c8 => absurd (by decide) c8)
        refine lv_iconst (v := 0) hx hb dX11_correct_43 (by decide) ?_
        exact ct_rz hx hb hr hlocks hS (by (have hB : (m_coBad σ en f vl) = true := (by simp only [m_coBad, b1, b3, b5, Bool.not_true, Bool.not_false, Bool.and_true, Bool.true_and, Bool.and_false, Bool.false_and, Bool.or_true, Bool.true_or, Bool.or_false, Bool.false_or, Bool.and_self, Bool.or_self, eq_self, if_true, Bool.false_eq_true, if_false])); unfold m_correct; rw [hB]; exact ⟨rfl, hM⟩) (rfl) (Nat.le_of_ble_eq_true rfl) (Nat.le_of_ble_eq_true rfl) dX11_correct_44
    · refine lv_if_eq (tgt := 43) hx hb dX11_correct_20 (by decide) (fun _ => ?_) (fun c9 => absurd (by decide) c9)
      refine lv_iconst (v := 0) hx hb dX11_correct_43 (by decide) ?_
      exact ct_rz hx hb hr hlocks hS (by (have hB : (m_coBad σ en f vl) = true := (by simp only [m_coBad, b1, b3, Bool.not_true, Bool.not_false, Bool.and_true, Bool.true_and, Bool.and_false, Bool.false_and, Bool.or_true, Bool.true_or, Bool.or_false, Bool.false_or, Bool.and_self, Bool.or_self, eq_self, if_true, Bool.false_eq_true, if_false])); unfold m_correct; rw [hB]; exact ⟨rfl, hM⟩) (rfl) (Nat.le_of_ble_eq_true rfl) (Nat.le_of_ble_eq_true rfl) dX11_correct_44
  · refine lv_if_eq (tgt := 43) hx hb dX11_correct_11 (by decide) (fun _ => ?_) (fun c10 => absurd (by decide) c10)
    refine lv_iconst (v := 0) hx hb dX11_correct_43 (by decide) ?_
    exact ct_rz hx hb hr hlocks hS (by (have hB : (m_coBad σ en f vl) = true := (by simp only [m_coBad, b1, Bool.not_true, Bool.not_false, Bool.and_true, Bool.true_and, Bool.and_false, Bool.false_and, Bool.or_true, Bool.true_or, Bool.or_false, Bool.false_or, Bool.and_self, Bool.or_self, eq_self, if_true, Bool.false_eq_true, if_false])); unfold m_correct; rw [hB]; exact ⟨rfl, hM⟩) (rfl) (Nat.le_of_ble_eq_true rfl) (Nat.le_of_ble_eq_true rfl) dX11_correct_44
set_option maxHeartbeats 1000000 in
set_option maxRecDepth 20000 in
theorem c_entry (l : Launch) (E : EV) (A : Nat → Prop) (σ : St) (M : Nat → Nat) (en f dy : Int32) : Cr l E yX11_entry cX11_entry 6 (some .int) 1 22 [.ref (M 0), .int en, .int f, .int dy] (fun H => Md E A σ M H ∧ InvM σ) (some (.int (m_entry σ en f dy))) := by
  refine Cr.of (by decide +kernel) (Nat.le_of_ble_eq_true rfl) (fun pg ev s mi bel mth cd hx hb hr hml hown hu hlocks hE hP ls hl => ?_)
  have hl : lv_has ls 6 [(0, .ref (M 0)), (1, .int en), (2, .int f), (3, .int dy)] := hl
  obtain ⟨hM, hI⟩ := hP
  have hn := cnt_le (N := 100) hI.1.2.2.2.2.2.2.2.2
  have hc := cnt_nI hI.1.2.2.2.2.2.2.2.2
  refine lv_iload_n hx hb dX11_entry_0 rfl (lv_at hl 1 rfl) ?_
  refine lv_iconst (v := 0) hx hb dX11_entry_1 (by decide) ?_
  refine lv_aload_n hx hb dX11_entry_2 rfl (lv_at hl 0 rfl) ?_
  refine rd_get (k := 30) (v := .int (σ 30 0)) hx hb hown hu hE ok12 (md_obj hM) (by decide) u787 (fun _ h => h) rfl dX11_entry_3 ?_
  refine lv_iconst (v := 1) hx hb dX11_entry_6 (by decide) ?_
  refine lv_isub hx hb dX11_entry_7 ?_
  refine cr_S (As := [.int en, .int 0, .int ((σ 30 0) - 1)]) (rest := []) hx hb hml hown hu hE (c_in l E en 0 ((σ 30 0) - 1)) kX11_in u873 (trivial) ⟨Nat.le_of_ble_eq_true rfl, Nat.le_of_ble_eq_true rfl⟩ rfl hl.1 rfl (Nat.le_of_ble_eq_true rfl) ⟨Nat.le_of_ble_eq_true rfl, Nat.le_of_ble_eq_true rfl⟩ dX11_entry_8 ?_
  refine onB (fun b1 => ?_) (fun b1 => ?_)
  · refine lv_if_eq (tgt := 43) hx hb dX11_entry_11 (by decide) (fun c2 => absurd c2 (by decide)) (fun _ => ?_)
    refine lv_iload_n hx hb dX11_entry_14 rfl (lv_at hl 2 rfl) ?_
    refine lv_iconst (v := 0) hx hb dX11_entry_15 (by decide) ?_
    refine lv_bipush (v := 7) hx hb dX11_entry_16 (by decide) ?_
    refine cr_S (As := [.int f, .int 0, .int 7]) (rest := []) hx hb hml hown hu hE (c_in l E f 0 7) kX11_in u873 (trivial) ⟨Nat.le_of_ble_eq_true rfl, Nat.le_of_ble_eq_true rfl⟩ rfl hl.1 rfl (Nat.le_of_ble_eq_true rfl) ⟨Nat.le_of_ble_eq_true rfl, Nat.le_of_ble_eq_true rfl⟩ dX11_entry_18 ?_
    refine onB (fun b3 => ?_) (fun b3 => ?_)
    · refine lv_if_eq (tgt := 43) hx hb dX11_entry_21 (by decide) (fun c4 => absurd c4 (by decide)) (fun _ => ?_)
      refine lv_iload_n hx hb dX11_entry_24 rfl (lv_at hl 3 rfl) ?_
      refine lv_aload_n hx hb dX11_entry_25 rfl (lv_at hl 0 rfl) ?_
      refine rd_get (k := 29) (v := .ref (M 29)) hx hb hown hu hE ok12 (md_obj hM) (by decide) u786 (fun _ h => h) rfl dX11_entry_26 ?_
      refine lv_iload_n hx hb dX11_entry_29 rfl (lv_at hl 1 rfl) ?_
      refine mr_re hx hb hE hM (e_in hI b1) dX11_entry_30 ?_
      refine lv_iconst (v := 0) hx hb dX11_entry_31 (by decide) ?_
      refine mr_lde (i := en) (jn := 0) hx hb hE hM (e_in hI b1) (by unfold vp_in; decide) rfl dX11_entry_32 ?_
      refine lv_aload_n hx hb dX11_entry_33 rfl (lv_at hl 0 rfl) ?_
      refine rd_get (k := 0) (v := .int (σ 0 0)) hx hb hown hu hE ok12 (md_obj hM) (by decide) u757 (fun _ h => h) rfl dX11_entry_34 ?_
      refine cr_S (As := [.int dy, .int (gR σ 200 en 0), .int (σ 0 0)]) (rest := []) hx hb hml hown hu hE (c_in l E dy (gR σ 200 en 0) (σ 0 0)) kX11_in u873 (trivial) ⟨Nat.le_of_ble_eq_true rfl, Nat.le_of_ble_eq_true rfl⟩ rfl hl.1 rfl (Nat.le_of_ble_eq_true rfl) ⟨Nat.le_of_ble_eq_true rfl, Nat.le_of_ble_eq_true rfl⟩ dX11_entry_37 ?_
      refine onB (fun b5 => ?_) (fun b5 => ?_)
      · refine lv_if_ne (tgt := 45) hx hb dX11_entry_40 (by decide) (fun _ => ?_) (fun c6 => absurd c6 (by decide))
        refine lv_aload_n hx hb dX11_entry_45 rfl (lv_at hl 0 rfl) ?_
        refine rd_get (k := 29) (v := .ref (M 29)) hx hb hown hu hE ok12 (md_obj hM) (by decide) u786 (fun _ h => h) rfl dX11_entry_46 ?_
        refine lv_iload_n hx hb dX11_entry_49 rfl (lv_at hl 1 rfl) ?_
        refine mr_re hx hb hE hM (e_in hI b1) dX11_entry_50 ?_
        refine lv_iload_n hx hb dX11_entry_51 rfl (lv_at hl 2 rfl) ?_
        refine mr_lde (i := en) (jn := f.toNatClampNeg) hx hb hE hM (e_in hI b1) (in07 b3) rfl dX11_entry_52 ?_
        refine lv_istore (lv' := [(4, .int (gR σ 200 en f.toNatClampNeg)), (0, .ref (M 0)), (1, .int en), (2, .int f), (3, .int dy)]) hx hb dX11_entry_53 hl (by decide) rfl (fun ls hl => ?_)
        refine lv_iconst (v := 0) hx hb dX11_entry_55 (by decide) ?_
        refine lv_istore (lv' := [(5, .int 0), (4, .int (gR σ 200 en f.toNatClampNeg)), (0, .ref (M 0)), (1, .int en), (2, .int f), (3, .int dy)]) hx hb dX11_entry_56 hl (by decide) rfl (fun ls hl => ?_)
        obtain ⟨T, hT⟩ : ∃ z, z = m_enL σ en f dy (nn σ 35) 0 (gR σ 200 en f.toNatClampNeg) := ⟨_, rfl⟩
        have lo : ∀ (g k : Nat) (v : Int32), (k + g = nn σ 35) → (m_enL σ en f dy g k v = T) → (m_enBad σ en f dy = false) → ∀ (ls : Array Slot), lv_has ls 6 [(0, .ref (M 0)), (1, .int en), (2, .int f), (3, .int dy), (4, .int v), (5, .int (nI k))] → W pg l ev { frames := 1, cells := 0, slots := 0, locals := 22 } s mi [.ref (M 0), .int en, .int f, .int dy].toArray bel mth cd s.heap [] 0 0 (QR bel s [.ref (M 0), .int en, .int f, .int dy].toArray (some (.int (m_entry σ en f dy)))) (F0 mi 58 ls []) := by
          intro g
          induction g with
          | zero =>
            intro k v hk hi h1 ls hl
            refine lv_iload hx hb dX11_entry_58 (lv_at hl 5 rfl) ?_
            refine lv_aload_n hx hb dX11_entry_60 rfl (lv_at hl 0 rfl) ?_
            refine rd_get (k := 35) (v := .int (σ 35 0)) hx hb hown hu hE ok12 (md_obj hM) (by decide) u792 (fun _ h => h) rfl dX11_entry_61 ?_
            refine lv_icmp_ge (tgt := 115) hx hb dX11_entry_64 (by decide) (fun c7 => ?_) (fun c7 => absurd (by rw [hc]; exact nI_le (by omega) (by omega)) c7)
            refine lv_iload hx hb dX11_entry_115 (lv_at hl 4 rfl) ?_
            exact cr_ri hx hb hr hlocks (by simp only [m_enL] at hi; simp only [m_entry, h1, Bool.not_true, Bool.not_false, Bool.and_true, Bool.true_and, Bool.and_false, Bool.false_and, Bool.or_true, Bool.true_or, Bool.or_false, Bool.false_or, Bool.and_self, Bool.or_self, eq_self, if_true, Bool.false_eq_true, if_false]; rw [← hT, ← hi]) dX11_entry_117
          | succ g ih =>
            intro k v hk hi h1 ls hl
            refine lv_iload hx hb dX11_entry_58 (lv_at hl 5 rfl) ?_
            refine lv_aload_n hx hb dX11_entry_60 rfl (lv_at hl 0 rfl) ?_
            refine rd_get (k := 35) (v := .int (σ 35 0)) hx hb hown hu hE ok12 (md_obj hM) (by decide) u792 (fun _ h => h) rfl dX11_entry_61 ?_
            refine lv_icmp_ge (tgt := 115) hx hb dX11_entry_64 (by decide) (fun c8 => absurd c8 (by rw [hc]; exact nI_ge (by omega) (by omega))) (fun c8 => ?_)
            refine lv_aload_n hx hb dX11_entry_67 rfl (lv_at hl 0 rfl) ?_
            refine rd_get (k := 31) (v := .ref (M 31)) hx hb hown hu hE ok12 (md_obj hM) (by decide) u788 (fun _ h => h) rfl dX11_entry_68 ?_
            refine lv_iload hx hb dX11_entry_71 (lv_at hl 5 rfl) ?_
            refine mr_ld (t := 31) hx hb hE hM rfl (by decide) (vp_in_nI (N := 100) (by omega) (by decide)) dX11_entry_73 ?_
            refine lv_iload_n hx hb dX11_entry_74 rfl (lv_at hl 1 rfl) ?_
            refine lv_icmp_ne (tgt := 109) hx hb dX11_entry_75 (by decide) (fun c9 => ?_) (fun c9 => ?_)
            · refine lv_iinc (v := nI (k + 1)) (lv' := [(5, .int (nI (k + 1))), (0, .ref (M 0)), (1, .int en), (2, .int f), (3, .int dy), (4, .int v)]) hx hb dX11_entry_109 hl (k := 5) rfl (nI_1 k) (by decide) rfl (fun ls hl => ?_)
              refine lv_goto (tgt := 58) hx hb dX11_entry_112 (by decide) ?_
              exact ih (k + 1) _ (by omega) (by simp only [m_enL, m_enC, decide_eq_false c9, Bool.not_true, Bool.not_false, Bool.and_true, Bool.true_and, Bool.and_false, Bool.false_and, Bool.or_true, Bool.true_or, Bool.or_false, Bool.false_or, Bool.and_self, Bool.or_self, eq_self, if_true, Bool.false_eq_true, if_false] at hi; exact hi) h1 _ (lv_sub hl [1, 2, 3, 4, 5, 0] rfl)
            · refine lv_aload_n hx hb dX11_entry_78 rfl (lv_at hl 0 rfl) ?_
              refine rd_get (k := 32) (v := .ref (M 32)) hx hb hown hu hE ok12 (md_obj hM) (by decide) u789 (fun _ h => h) rfl dX11_entry_79 ?_
              refine lv_iload hx hb dX11_entry_82 (lv_at hl 5 rfl) ?_
              refine mr_ld (t := 32) hx hb hE hM rfl (by decide) (vp_in_nI (N := 100) (by omega) (by decide)) dX11_entry_84 ?_
              refine lv_iload_n hx hb dX11_entry_85 rfl (lv_at hl 2 rfl) ?_
              refine lv_icmp_ne (tgt := 109) hx hb dX11_entry_86 (by decide) (fun c10 => ?_) (fun c10 => ?_)
              · refine lv_iinc (v := nI (k + 1)) (lv' := [(5, .int (nI (k + 1))), (0, .ref (M 0)), (1, .int en), (2, .int f), (3, .int dy), (4, .int v)]) hx hb dX11_entry_109 hl (k := 5) rfl (nI_1 k) (by decide) rfl (fun ls hl => ?_)
                refine lv_goto (tgt := 58) hx hb dX11_entry_112 (by decide) ?_
                exact ih (k + 1) _ (by omega) (by simp only [m_enL, m_enC, decide_eq_true c9, decide_eq_false c10, Bool.not_true, Bool.not_false, Bool.and_true, Bool.true_and, Bool.and_false, Bool.false_and, Bool.or_true, Bool.true_or, Bool.or_false, Bool.false_or, Bool.and_self, Bool.or_self, eq_self, if_true, Bool.false_eq_true, if_false] at hi; exact hi) h1 _ (lv_sub hl [1, 2, 3, 4, 5, 0] rfl)
              · refine lv_aload_n hx hb dX11_entry_89 rfl (lv_at hl 0 rfl) ?_
                refine rd_get (k := 34) (v := .ref (M 34)) hx hb hown hu hE ok12 (md_obj hM) (by decide) u791 (fun _ h => h) rfl dX11_entry_90 ?_
                refine lv_iload hx hb dX11_entry_93 (lv_at hl 5 rfl) ?_
                refine mr_ld (t := 34) hx hb hE hM rfl (by decide) (vp_in_nI (N := 100) (by omega) (by decide)) dX11_entry_95 ?_
                refine lv_iload_n hx hb dX11_entry_96 rfl (lv_at hl 3 rfl) ?_
                refine lv_icmp_gt (tgt := 109) hx hb dX11_entry_97 (by decide) (fun c11 => ?_) (fun c11 => ?_)
                · refine lv_iinc (v := nI (k + 1)) (lv' := [(5, .int (nI (k + 1))), (0, .ref (M 0)), (1, .int en), (2, .int f), (3, .int dy), (4, .int v)]) hx hb dX11_entry_109 hl (k := 5) rfl (nI_1 k) (by decide) rfl (fun ls hl => ?_)
                  refine lv_goto (tgt := 58) hx hb dX11_entry_112 (by decide) ?_
                  exact ih (k + 1) _ (by omega) (by simp only [m_enL, m_enC, decide_eq_true c9, decide_eq_true c10, decide_eq_true c11, Bool.not_true, Bool.not_false, Bool.and_true, Bool.true_and, Bool.and_false, Bool.false_and, Bool.or_true, Bool.true_or, Bool.or_false, Bool.false_or, Bool.and_self, Bool.or_self, eq_self, if_true, Bool.false_eq_true, if_false] at hi; exact hi) h1 _ (lv_sub hl [1, 2, 3, 4, 5, 0] rfl)
                · refine lv_aload_n hx hb dX11_entry_100 rfl (lv_at hl 0 rfl) ?_
                  refine rd_get (k := 33) (v := .ref (M 33)) hx hb hown hu hE ok12 (md_obj hM) (by decide) u790 (fun _ h => h) rfl dX11_entry_101 ?_
                  refine lv_iload hx hb dX11_entry_104 (lv_at hl 5 rfl) ?_
                  refine mr_ld (t := 33) hx hb hE hM rfl (by decide) (vp_in_nI (N := 100) (by omega) (by decide)) dX11_entry_106 ?_
                  refine lv_istore (lv' := [(4, .int (gA σ 33 (nI k))), (0, .ref (M 0)), (1, .int en), (2, .int f), (3, .int dy), (5, .int (nI k))]) hx hb dX11_entry_107 hl (by decide) rfl (fun ls hl => ?_)
                  refine lv_iinc (v := nI (k + 1)) (lv' := [(5, .int (nI (k + 1))), (4, .int (gA σ 33 (nI k))), (0, .ref (M 0)), (1, .int en), (2, .int f), (3, .int dy)]) hx hb dX11_entry_109 hl (k := 5) rfl (nI_1 k) (by decide) rfl (fun ls hl => ?_)
                  refine lv_goto (tgt := 58) hx hb dX11_entry_112 (by decide) ?_
                  exact ih (k + 1) _ (by omega) (by simp only [m_enL, m_enC, decide_eq_true c9, decide_eq_true c10, decide_eq_false c11, Bool.not_true, Bool.not_false, Bool.and_true, Bool.true_and, Bool.and_false, Bool.false_and, Bool.or_true, Bool.true_or, Bool.or_false, Bool.false_or, Bool.and_self, Bool.or_self, eq_self, if_true, Bool.false_eq_true, if_false] at hi; exact hi) h1 _ (lv_sub hl [2, 3, 4, 5, 1, 0] rfl)
        exact lo (nn σ 35) 0 _ (by omega) hT.symm (by simp only [m_enBad, b1, b3, b5, Bool.not_true, Bool.not_false, Bool.and_true, Bool.true_and, Bool.and_false, Bool.false_and, Bool.or_true, Bool.true_or, Bool.or_false, Bool.false_or, Bool.and_self, Bool.or_self, eq_self, if_true, Bool.false_eq_true, if_false]) _ (lv_sub hl [2, 3, 4, 5, 1, 0] rfl)
      · refine lv_if_ne (tgt := 45) hx hb dX11_entry_40 (by decide) (fun c12 => absurd c12 (by decide)) (fun _ => ?_)
        refine lv_iconst (v := (-1)) hx hb dX11_entry_43 (by decide) ?_
        exact cr_ri hx hb hr hlocks (by simp only [m_entry, m_enBad, b1, b3, b5, Bool.not_true, Bool.not_false, Bool.and_true, Bool.true_and, Bool.and_false, Bool.false_and, Bool.or_true, Bool.true_or, Bool.or_false, Bool.false_or, Bool.and_self, Bool.or_self, eq_self, if_true, Bool.false_eq_true, if_false]) dX11_entry_44
    · refine lv_if_eq (tgt := 43) hx hb dX11_entry_21 (by decide) (fun _ => ?_) (fun c13 => absurd (by decide) c13)
      refine lv_iconst (v := (-1)) hx hb dX11_entry_43 (by decide) ?_
      exact cr_ri hx hb hr hlocks (by simp only [m_entry, m_enBad, b1, b3, Bool.not_true, Bool.not_false, Bool.and_true, Bool.true_and, Bool.and_false, Bool.false_and, Bool.or_true, Bool.true_or, Bool.or_false, Bool.false_or, Bool.and_self, Bool.or_self, eq_self, if_true, Bool.false_eq_true, if_false]) dX11_entry_44
  · refine lv_if_eq (tgt := 43) hx hb dX11_entry_11 (by decide) (fun _ => ?_) (fun c14 => absurd (by decide) c14)
    refine lv_iconst (v := (-1)) hx hb dX11_entry_43 (by decide) ?_
    exact cr_ri hx hb hr hlocks (by simp only [m_entry, m_enBad, b1, Bool.not_true, Bool.not_false, Bool.and_true, Bool.true_and, Bool.and_false, Bool.false_and, Bool.or_true, Bool.true_or, Bool.or_false, Bool.false_or, Bool.and_self, Bool.or_self, eq_self, if_true, Bool.false_eq_true, if_false]) dX11_entry_44
set_option maxHeartbeats 1000000 in
set_option maxRecDepth 20000 in
theorem c_nameOf (l : Launch) (E : EV) (A : Nat → Prop) (σ : St) (M : Nat → Nat) (en wc b_ : Int32) : Ct l E yX11_nameOf cX11_nameOf 6 (some .int) 2 47 0 0 A [.ref (M 0), .int en, .int wc, .int b_] (fun H => Md E A σ M H ∧ InvM σ ∧ okE σ en ∧ (wc = 0 ∨ wc = 1) ∧ (b_ = 0 ∨ b_ = 1)) (fun v H => v = some (.int (m_nameOf σ en wc b_)) ∧ Md E A σ M H) := by
  refine Ct.of (by decide +kernel) (Nat.le_of_ble_eq_true rfl) (fun pg ev s mi bel mth cd hx hb hr hml hown hu hlocks hnm hE hP hA hZ ls hl => ?_)
  have hl : lv_has ls 6 [(0, .ref (M 0)), (1, .int en), (2, .int wc), (3, .int b_)] := hl
  have hS : va_S A s.heap s.heap [] := va_S.rf
  obtain ⟨hM, hI, hX, hw_, hb_⟩ := hP
  refine lv_aload_n hx hb dX11_nameOf_0 rfl (lv_at hl 0 rfl) ?_
  refine rd_get (k := 29) (v := .ref (M 29)) hx hb hown hu hE ok12 (md_obj hM) (by decide) u786 (fun _ h => h) rfl dX11_nameOf_1 ?_
  refine lv_iload_n hx hb dX11_nameOf_4 rfl (lv_at hl 1 rfl) ?_
  refine mr_re hx hb hE hM (okE_in hI hX) dX11_nameOf_5 ?_
  refine lv_astore (lv' := [(4, .ref (M (200 + en.toNatClampNeg))), (0, .ref (M 0)), (1, .int en), (2, .int wc), (3, .int b_)]) hx hb dX11_nameOf_6 hl (by decide) rfl (fun ls hl => ?_)
  refine lv_aload_n hx hb dX11_nameOf_8 rfl (lv_at hl 1 rfl) ?_
  refine lv_aload hx hb dX11_nameOf_9 (lv_at hl 0 rfl) ?_
  refine lv_iconst (v := 5) hx hb dX11_nameOf_11 (by decide) ?_
  refine lv_iload_n hx hb dX11_nameOf_12 rfl (lv_at hl 4 rfl) ?_
  refine lv_iadd hx hb dX11_nameOf_13 ?_
  refine mr_lde (i := en) (jn := (5 + b_).toNatClampNeg) hx hb hE hM (okE_in hI hX) ((by rcases hb_ with e | e <;> (rw [e]; unfold vp_in; decide))) rfl dX11_nameOf_14 ?_
  refine lv_aload hx hb dX11_nameOf_15 (lv_at hl 0 rfl) ?_
  refine lv_iconst (v := 0) hx hb dX11_nameOf_17 (by decide) ?_
  refine mr_lde (i := en) (jn := 0) hx hb hE hM (okE_in hI hX) (by unfold vp_in; decide) rfl dX11_nameOf_18 ?_
  refine lv_bipush (v := 7) hx hb dX11_nameOf_19 (by decide) ?_
  refine ct_V (As := [.int (gR σ 200 en ((5 + b_).toNatClampNeg)), .int (gR σ 200 en 0), .int 7]) (rest := []) hx hb hml hown hu hE hZ hS (fun _ h => h) (fun q h => hA q (Nat.le_trans hS.1 h)) (c_asks l E A σ M (gR σ 200 en ((5 + b_).toNatClampNeg)) (gR σ 200 en 0) 7) kX11_asks u933 (md_obj hM) rfl rfl (⟨hM, hI, okEP hI hX hb_, by decide⟩) ⟨Nat.le_of_ble_eq_true rfl, Nat.le_of_ble_eq_true rfl⟩ rfl hl.1 rfl (Nat.le_of_ble_eq_true rfl) ⟨Nat.le_of_ble_eq_true rfl, Nat.le_of_ble_eq_true rfl⟩ dX11_nameOf_21 (fun v1 H1 locs1 hR hS hz hk => ?_)
  obtain ⟨rfl, hM⟩ := hR
  refine lv_istore (lv' := [(5, .int (m_asks σ (gR σ 200 en ((5 + b_).toNatClampNeg)) (gR σ 200 en 0) 7)), (4, .ref (M (200 + en.toNatClampNeg))), (0, .ref (M 0)), (1, .int en), (2, .int wc), (3, .int b_)]) hx hb dX11_nameOf_24 hl (by decide) rfl (fun ls hl => ?_)
  refine lv_iload hx hb dX11_nameOf_26 (lv_at hl 0 rfl) ?_
  refine lv_if_ne (tgt := 40) hx hb dX11_nameOf_28 (by decide) (fun c2 => ?_) (fun c2 => ?_)
  · refine lv_iload hx hb dX11_nameOf_40 (lv_at hl 0 rfl) ?_
    refine lv_iconst (v := 1) hx hb dX11_nameOf_42 (by decide) ?_
    refine lv_icmp_ne (tgt := 53) hx hb dX11_nameOf_43 (by decide) (fun c3 => ?_) (fun c3 => ?_)
    · refine lv_sipush (v := 10000) hx hb dX11_nameOf_53 (by decide) ?_
      refine lv_aload hx hb dX11_nameOf_56 (lv_at hl 1 rfl) ?_
      refine lv_iconst (v := 1) hx hb dX11_nameOf_58 (by decide) ?_
      refine mr_lde (i := en) (jn := 1) hx hb hE hM (okE_in hI hX) (by unfold vp_in; decide) rfl dX11_nameOf_59 ?_
      refine lv_imul hx hb dX11_nameOf_60 ?_
      refine lv_aload hx hb dX11_nameOf_61 (lv_at hl 1 rfl) ?_
      refine lv_iconst (v := 2) hx hb dX11_nameOf_63 (by decide) ?_
      refine mr_lde (i := en) (jn := 2) hx hb hE hM (okE_in hI hX) (by unfold vp_in; decide) rfl dX11_nameOf_64 ?_
      refine lv_iadd hx hb dX11_nameOf_65 ?_
      exact ct_ri hx hb hr hlocks hS (⟨(by unfold m_nameOf m_how; simp only [decide_eq_false c2, decide_eq_false c3, Bool.not_true, Bool.not_false, Bool.and_true, Bool.true_and, Bool.and_false, Bool.false_and, Bool.or_true, Bool.true_or, Bool.or_false, Bool.false_or, Bool.and_self, Bool.or_self, eq_self, if_true, Bool.false_eq_true, if_false]), hM⟩) (Nat.le_of_ble_eq_true rfl) (Nat.le_of_ble_eq_true rfl) dX11_nameOf_66
    · refine lv_aload hx hb dX11_nameOf_46 (lv_at hl 1 rfl) ?_
      refine lv_iconst (v := 1) hx hb dX11_nameOf_48 (by decide) ?_
      refine mr_lde (i := en) (jn := 1) hx hb hE hM (okE_in hI hX) (by unfold vp_in; decide) rfl dX11_nameOf_49 ?_
      refine lv_goto (tgt := 66) hx hb dX11_nameOf_50 (by decide) ?_
      exact ct_ri hx hb hr hlocks hS (⟨(by unfold m_nameOf m_how; simp only [decide_eq_false c2, decide_eq_true c3, Bool.not_true, Bool.not_false, Bool.and_true, Bool.true_and, Bool.and_false, Bool.false_and, Bool.or_true, Bool.true_or, Bool.or_false, Bool.false_or, Bool.and_self, Bool.or_self, eq_self, if_true, Bool.false_eq_true, if_false]), hM⟩) (Nat.le_of_ble_eq_true rfl) (Nat.le_of_ble_eq_true rfl) dX11_nameOf_66
  · refine lv_aload hx hb dX11_nameOf_31 (lv_at hl 1 rfl) ?_
    refine lv_iconst (v := 1) hx hb dX11_nameOf_33 (by decide) ?_
    refine lv_iload_n hx hb dX11_nameOf_34 rfl (lv_at hl 4 rfl) ?_
    refine lv_iadd hx hb dX11_nameOf_35 ?_
    refine mr_lde (i := en) (jn := (1 + wc).toNatClampNeg) hx hb hE hM (okE_in hI hX) ((by rcases hw_ with e | e <;> (rw [e]; unfold vp_in; decide))) rfl dX11_nameOf_36 ?_
    refine lv_goto (tgt := 66) hx hb dX11_nameOf_37 (by decide) ?_
    exact ct_ri hx hb hr hlocks hS (⟨(by unfold m_nameOf m_how; simp only [decide_eq_true c2, Bool.not_true, Bool.not_false, Bool.and_true, Bool.true_and, Bool.and_false, Bool.false_and, Bool.or_true, Bool.true_or, Bool.or_false, Bool.false_or, Bool.and_self, Bool.or_self, eq_self, if_true, Bool.false_eq_true, if_false]), hM⟩) (Nat.le_of_ble_eq_true rfl) (Nat.le_of_ble_eq_true rfl) dX11_nameOf_66
set_option maxHeartbeats 1000000 in
set_option maxRecDepth 20000 in
theorem c_name (l : Launch) (E : EV) (A : Nat → Prop) (σ : St) (M : Nat → Nat) (en wc b_ : Int32) : Ct l E yX11_name cX11_name 4 (some .int) 3 72 0 0 A [.ref (M 0), .int en, .int wc, .int b_] (fun H => Md E A σ M H ∧ InvM σ) (fun v H => v = some (.int (m_name σ en wc b_)) ∧ Md E A σ M H) := by
  refine Ct.of (by decide +kernel) (Nat.le_of_ble_eq_true rfl) (fun pg ev s mi bel mth cd hx hb hr hml hown hu hlocks hnm hE hP hA hZ ls hl => ?_)
  have hl : lv_has ls 4 [(0, .ref (M 0)), (1, .int en), (2, .int wc), (3, .int b_)] := hl
  have hS : va_S A s.heap s.heap [] := va_S.rf
  obtain ⟨hM, hI⟩ := hP
  refine lv_iload_n hx hb dX11_name_0 rfl (lv_at hl 1 rfl) ?_
  refine lv_iconst (v := 0) hx hb dX11_name_1 (by decide) ?_
  refine lv_aload_n hx hb dX11_name_2 rfl (lv_at hl 0 rfl) ?_
  refine rd_get (k := 30) (v := .int (σ 30 0)) hx hb hown hu hE ok12 (md_obj hM) (by decide) u787 (fun _ h => h) rfl dX11_name_3 ?_
  refine lv_iconst (v := 1) hx hb dX11_name_6 (by decide) ?_
  refine lv_isub hx hb dX11_name_7 ?_
  refine cr_S (As := [.int en, .int 0, .int ((σ 30 0) - 1)]) (rest := []) hx hb hml hown hu hE (c_in l E en 0 ((σ 30 0) - 1)) kX11_in u873 (trivial) ⟨Nat.le_of_ble_eq_true rfl, Nat.le_of_ble_eq_true rfl⟩ rfl hl.1 rfl (Nat.le_of_ble_eq_true rfl) ⟨Nat.le_of_ble_eq_true rfl, Nat.le_of_ble_eq_true rfl⟩ dX11_name_8 ?_
  refine onB (fun b1 => ?_) (fun b1 => ?_)
  · refine lv_if_eq (tgt := 42) hx hb dX11_name_11 (by decide) (fun c2 => absurd c2 (by decide)) (fun _ => ?_)
    refine lv_iload_n hx hb dX11_name_14 rfl (lv_at hl 2 rfl) ?_
    refine lv_iconst (v := 0) hx hb dX11_name_15 (by decide) ?_
    refine lv_iconst (v := 1) hx hb dX11_name_16 (by decide) ?_
    refine cr_S (As := [.int wc, .int 0, .int 1]) (rest := []) hx hb hml hown hu hE (c_in l E wc 0 1) kX11_in u873 (trivial) ⟨Nat.le_of_ble_eq_true rfl, Nat.le_of_ble_eq_true rfl⟩ rfl hl.1 rfl (Nat.le_of_ble_eq_true rfl) ⟨Nat.le_of_ble_eq_true rfl, Nat.le_of_ble_eq_true rfl⟩ dX11_name_17 ?_
    refine onB (fun b3 => ?_) (fun b3 => ?_)
    · refine lv_if_eq (tgt := 42) hx hb dX11_name_20 (by decide) (fun c4 => absurd c4 (by decide)) (fun _ => ?_)
      refine lv_iload_n hx hb dX11_name_23 rfl (lv_at hl 3 rfl) ?_
      refine lv_iconst (v := 0) hx hb dX11_name_24 (by decide) ?_
      refine lv_iconst (v := 1) hx hb dX11_name_25 (by decide) ?_
      refine cr_S (As := [.int b_, .int 0, .int 1]) (rest := []) hx hb hml hown hu hE (c_in l E b_ 0 1) kX11_in u873 (trivial) ⟨Nat.le_of_ble_eq_true rfl, Nat.le_of_ble_eq_true rfl⟩ rfl hl.1 rfl (Nat.le_of_ble_eq_true rfl) ⟨Nat.le_of_ble_eq_true rfl, Nat.le_of_ble_eq_true rfl⟩ dX11_name_26 ?_
      refine onB (fun b5 => ?_) (fun b5 => ?_)
      · refine lv_if_eq (tgt := 42) hx hb dX11_name_29 (by decide) (fun c6 => absurd c6 (by decide)) (fun _ => ?_)
        refine lv_aload_n hx hb dX11_name_32 rfl (lv_at hl 0 rfl) ?_
        refine lv_iload_n hx hb dX11_name_33 rfl (lv_at hl 1 rfl) ?_
        refine lv_iload_n hx hb dX11_name_34 rfl (lv_at hl 2 rfl) ?_
        refine lv_iload_n hx hb dX11_name_35 rfl (lv_at hl 3 rfl) ?_
        refine ct_V (As := [.int en, .int wc, .int b_]) (rest := []) hx hb hml hown hu hE hZ hS (fun _ h => h) (fun q h => hA q (Nat.le_trans hS.1 h)) (c_nameOf l E A σ M en wc b_) kX11_nameOf u1038 (md_obj hM) rfl rfl (⟨hM, hI, ⟨okE_of hI b1, in01 b3, in01 b5⟩⟩) ⟨Nat.le_of_ble_eq_true rfl, Nat.le_of_ble_eq_true rfl⟩ rfl hl.1 rfl (Nat.le_of_ble_eq_true rfl) ⟨Nat.le_of_ble_eq_true rfl, Nat.le_of_ble_eq_true rfl⟩ dX11_name_36 (fun v7 H1 locs1 hR hS hz hk => ?_)
        obtain ⟨rfl, hM⟩ := hR
        refine lv_goto (tgt := 43) hx hb dX11_name_39 (by decide) ?_
        exact ct_ri hx hb hr hlocks hS (⟨(by simp only [m_name, b1, b3, b5, Bool.not_true, Bool.not_false, Bool.and_true, Bool.true_and, Bool.and_false, Bool.false_and, Bool.or_true, Bool.true_or, Bool.or_false, Bool.false_or, Bool.and_self, Bool.or_self, eq_self, if_true, Bool.false_eq_true, if_false]), hM⟩) (Nat.le_of_ble_eq_true rfl) (Nat.le_of_ble_eq_true rfl) dX11_name_43
      · refine lv_if_eq (tgt := 42) hx hb dX11_name_29 (by decide) (fun _ => ?_) (fun c8 => absurd (by decide) c8)
        refine lv_iconst (v := (-1)) hx hb dX11_name_42 (by decide) ?_
        exact ct_ri hx hb hr hlocks hS (⟨(by simp only [m_name, b1, b3, b5, Bool.not_true, Bool.not_false, Bool.and_true, Bool.true_and, Bool.and_false, Bool.false_and, Bool.or_true, Bool.true_or, Bool.or_false, Bool.false_or, Bool.and_self, Bool.or_self, eq_self, if_true, Bool.false_eq_true, if_false]), hM⟩) (Nat.le_of_ble_eq_true rfl) (Nat.le_of_ble_eq_true rfl) dX11_name_43
    · refine lv_if_eq (tgt := 42) hx hb dX11_name_20 (by decide) (fun _ => ?_) (fun c9 => absurd (by decide) c9)
      refine lv_iconst (v := (-1)) hx hb dX11_name_42 (by decide) ?_
      exact ct_ri hx hb hr hlocks hS (⟨(by simp only [m_name, b1, b3, Bool.not_true, Bool.not_false, Bool.and_true, Bool.true_and, Bool.and_false, Bool.false_and, Bool.or_true, Bool.true_or, Bool.or_false, Bool.false_or, Bool.and_self, Bool.or_self, eq_self, if_true, Bool.false_eq_true, if_false]), hM⟩) (Nat.le_of_ble_eq_true rfl) (Nat.le_of_ble_eq_true rfl) dX11_name_43
  · refine lv_if_eq (tgt := 42) hx hb dX11_name_11 (by decide) (fun _ => ?_) (fun c10 => absurd (by decide) c10)
    refine lv_iconst (v := (-1)) hx hb dX11_name_42 (by decide) ?_
    exact ct_ri hx hb hr hlocks hS (⟨(by simp only [m_name, b1, Bool.not_true, Bool.not_false, Bool.and_true, Bool.true_and, Bool.and_false, Bool.false_and, Bool.or_true, Bool.true_or, Bool.or_false, Bool.false_or, Bool.and_self, Bool.or_self, eq_self, if_true, Bool.false_eq_true, if_false]), hM⟩) (Nat.le_of_ble_eq_true rfl) (Nat.le_of_ble_eq_true rfl) dX11_name_43
set_option maxHeartbeats 1000000 in
set_option maxRecDepth 20000 in
theorem c_quarrel (l : Launch) (E : EV) (A : Nat → Prop) (σ : St) (M : Nat → Nat) (en : Int32) : Ct l E yX11_quarrel cX11_quarrel 2 (some .boolean) 3 72 0 0 A [.ref (M 0), .int en] (fun H => Md E A σ M H ∧ InvM σ) (fun v H => v = some (.int (bI (m_quarrel σ en))) ∧ Md E A σ M H) := by
  refine Ct.of (by decide +kernel) (Nat.le_of_ble_eq_true rfl) (fun pg ev s mi bel mth cd hx hb hr hml hown hu hlocks hnm hE hP hA hZ ls hl => ?_)
  have hl : lv_has ls 2 [(0, .ref (M 0)), (1, .int en)] := hl
  have hS : va_S A s.heap s.heap [] := va_S.rf
  obtain ⟨hM, hI⟩ := hP
  refine lv_iload_n hx hb dX11_quarrel_0 rfl (lv_at hl 1 rfl) ?_
  refine lv_iconst (v := 0) hx hb dX11_quarrel_1 (by decide) ?_
  refine lv_aload_n hx hb dX11_quarrel_2 rfl (lv_at hl 0 rfl) ?_
  refine rd_get (k := 30) (v := .int (σ 30 0)) hx hb hown hu hE ok12 (md_obj hM) (by decide) u787 (fun _ h => h) rfl dX11_quarrel_3 ?_
  refine lv_iconst (v := 1) hx hb dX11_quarrel_6 (by decide) ?_
  refine lv_isub hx hb dX11_quarrel_7 ?_
  refine cr_S (As := [.int en, .int 0, .int ((σ 30 0) - 1)]) (rest := []) hx hb hml hown hu hE (c_in l E en 0 ((σ 30 0) - 1)) kX11_in u873 (trivial) ⟨Nat.le_of_ble_eq_true rfl, Nat.le_of_ble_eq_true rfl⟩ rfl hl.1 rfl (Nat.le_of_ble_eq_true rfl) ⟨Nat.le_of_ble_eq_true rfl, Nat.le_of_ble_eq_true rfl⟩ dX11_quarrel_8 ?_
  refine onB (fun b1 => ?_) (fun b1 => ?_)
  · refine lv_if_ne (tgt := 16) hx hb dX11_quarrel_11 (by decide) (fun _ => ?_) (fun c2 => absurd c2 (by decide))
    refine lv_aload_n hx hb dX11_quarrel_16 rfl (lv_at hl 0 rfl) ?_
    refine lv_iload_n hx hb dX11_quarrel_17 rfl (lv_at hl 1 rfl) ?_
    refine lv_iconst (v := 0) hx hb dX11_quarrel_18 (by decide) ?_
    refine lv_iconst (v := 0) hx hb dX11_quarrel_19 (by decide) ?_
    refine ct_V (As := [.int en, .int 0, .int 0]) (rest := []) hx hb hml hown hu hE hZ hS (fun _ h => h) (fun q h => hA q (Nat.le_trans hS.1 h)) (c_nameOf l E A σ M en 0 0) kX11_nameOf u1038 (md_obj hM) rfl rfl (⟨hM, hI, ⟨okE_of hI b1, by decide, by decide⟩⟩) ⟨Nat.le_of_ble_eq_true rfl, Nat.le_of_ble_eq_true rfl⟩ rfl hl.1 rfl (Nat.le_of_ble_eq_true rfl) ⟨Nat.le_of_ble_eq_true rfl, Nat.le_of_ble_eq_true rfl⟩ dX11_quarrel_20 (fun v3 H1 locs1 hR hS hz hk => ?_)
    obtain ⟨rfl, hM⟩ := hR
    refine lv_aload_n hx hb dX11_quarrel_23 rfl (lv_at hl 0 rfl) ?_
    refine lv_iload_n hx hb dX11_quarrel_24 rfl (lv_at hl 1 rfl) ?_
    refine lv_iconst (v := 0) hx hb dX11_quarrel_25 (by decide) ?_
    refine lv_iconst (v := 1) hx hb dX11_quarrel_26 (by decide) ?_
    refine ct_V (As := [.int en, .int 0, .int 1]) (rest := [.int (m_nameOf σ en 0 0)]) hx hb hml hown hu hE hZ hS (fun _ h => h) (fun q h => hA q (Nat.le_trans hS.1 h)) (c_nameOf l E A σ M en 0 1) kX11_nameOf u1038 (md_obj hM) rfl rfl (⟨hM, hI, ⟨okE_of hI b1, by decide, by decide⟩⟩) ⟨Nat.le_of_ble_eq_true rfl, Nat.le_of_ble_eq_true rfl⟩ rfl hl.1 rfl (Nat.le_of_ble_eq_true rfl) ⟨Nat.le_of_ble_eq_true rfl, Nat.le_of_ble_eq_true rfl⟩ dX11_quarrel_27 (fun v4 H1 locs1 hR hS hz hk => ?_)
    obtain ⟨rfl, hM⟩ := hR
    refine lv_icmp_ne (tgt := 50) hx hb dX11_quarrel_30 (by decide) (fun c5 => ?_) (fun c5 => ?_)
    · refine lv_iconst (v := 1) hx hb dX11_quarrel_50 (by decide) ?_
      refine lv_goto (tgt := 55) hx hb dX11_quarrel_51 (by decide) ?_
      exact ct_rz hx hb hr hlocks hS (⟨(by simp only [m_quarrel, b1, decide_eq_false c5, Bool.not_true, Bool.not_false, Bool.and_true, Bool.true_and, Bool.and_false, Bool.false_and, Bool.or_true, Bool.true_or, Bool.or_false, Bool.false_or, Bool.and_self, Bool.or_self, eq_self, if_true, Bool.false_eq_true, if_false] <;> rfl), hM⟩) (rfl) (Nat.le_of_ble_eq_true rfl) (Nat.le_of_ble_eq_true rfl) dX11_quarrel_55
    · refine lv_aload_n hx hb dX11_quarrel_33 rfl (lv_at hl 0 rfl) ?_
      refine lv_iload_n hx hb dX11_quarrel_34 rfl (lv_at hl 1 rfl) ?_
      refine lv_iconst (v := 1) hx hb dX11_quarrel_35 (by decide) ?_
      refine lv_iconst (v := 0) hx hb dX11_quarrel_36 (by decide) ?_
      refine ct_V (As := [.int en, .int 1, .int 0]) (rest := []) hx hb hml hown hu hE hZ hS (fun _ h => h) (fun q h => hA q (Nat.le_trans hS.1 h)) (c_nameOf l E A σ M en 1 0) kX11_nameOf u1038 (md_obj hM) rfl rfl (⟨hM, hI, ⟨okE_of hI b1, by decide, by decide⟩⟩) ⟨Nat.le_of_ble_eq_true rfl, Nat.le_of_ble_eq_true rfl⟩ rfl hl.1 rfl (Nat.le_of_ble_eq_true rfl) ⟨Nat.le_of_ble_eq_true rfl, Nat.le_of_ble_eq_true rfl⟩ dX11_quarrel_37 (fun v6 H1 locs1 hR hS hz hk => ?_)
      obtain ⟨rfl, hM⟩ := hR
      refine lv_aload_n hx hb dX11_quarrel_40 rfl (lv_at hl 0 rfl) ?_
      refine lv_iload_n hx hb dX11_quarrel_41 rfl (lv_at hl 1 rfl) ?_
      refine lv_iconst (v := 1) hx hb dX11_quarrel_42 (by decide) ?_
      refine lv_iconst (v := 1) hx hb dX11_quarrel_43 (by decide) ?_
      refine ct_V (As := [.int en, .int 1, .int 1]) (rest := [.int (m_nameOf σ en 1 0)]) hx hb hml hown hu hE hZ hS (fun _ h => h) (fun q h => hA q (Nat.le_trans hS.1 h)) (c_nameOf l E A σ M en 1 1) kX11_nameOf u1038 (md_obj hM) rfl rfl (⟨hM, hI, ⟨okE_of hI b1, by decide, by decide⟩⟩) ⟨Nat.le_of_ble_eq_true rfl, Nat.le_of_ble_eq_true rfl⟩ rfl hl.1 rfl (Nat.le_of_ble_eq_true rfl) ⟨Nat.le_of_ble_eq_true rfl, Nat.le_of_ble_eq_true rfl⟩ dX11_quarrel_44 (fun v7 H1 locs1 hR hS hz hk => ?_)
      obtain ⟨rfl, hM⟩ := hR
      refine lv_icmp_eq (tgt := 54) hx hb dX11_quarrel_47 (by decide) (fun c8 => ?_) (fun c8 => ?_)
      · refine lv_iconst (v := 0) hx hb dX11_quarrel_54 (by decide) ?_
        exact ct_rz hx hb hr hlocks hS (⟨(by simp only [m_quarrel, b1, decide_eq_true c5, decide_eq_true c8, Bool.not_true, Bool.not_false, Bool.and_true, Bool.true_and, Bool.and_false, Bool.false_and, Bool.or_true, Bool.true_or, Bool.or_false, Bool.false_or, Bool.and_self, Bool.or_self, eq_self, if_true, Bool.false_eq_true, if_false] <;> rfl), hM⟩) (rfl) (Nat.le_of_ble_eq_true rfl) (Nat.le_of_ble_eq_true rfl) dX11_quarrel_55
      · refine lv_iconst (v := 1) hx hb dX11_quarrel_50 (by decide) ?_
        refine lv_goto (tgt := 55) hx hb dX11_quarrel_51 (by decide) ?_
        exact ct_rz hx hb hr hlocks hS (⟨(by simp only [m_quarrel, b1, decide_eq_true c5, decide_eq_false c8, Bool.not_true, Bool.not_false, Bool.and_true, Bool.true_and, Bool.and_false, Bool.false_and, Bool.or_true, Bool.true_or, Bool.or_false, Bool.false_or, Bool.and_self, Bool.or_self, eq_self, if_true, Bool.false_eq_true, if_false] <;> rfl), hM⟩) (rfl) (Nat.le_of_ble_eq_true rfl) (Nat.le_of_ble_eq_true rfl) dX11_quarrel_55
  · refine lv_if_ne (tgt := 16) hx hb dX11_quarrel_11 (by decide) (fun c9 => absurd c9 (by decide)) (fun _ => ?_)
    refine lv_iconst (v := 0) hx hb dX11_quarrel_14 (by decide) ?_
    exact ct_rz hx hb hr hlocks hS (⟨(by simp only [m_quarrel, b1, Bool.not_true, Bool.not_false, Bool.and_true, Bool.true_and, Bool.and_false, Bool.false_and, Bool.or_true, Bool.true_or, Bool.or_false, Bool.false_or, Bool.and_self, Bool.or_self, eq_self, if_true, Bool.false_eq_true, if_false] <;> rfl), hM⟩) (rfl) (Nat.le_of_ble_eq_true rfl) (Nat.le_of_ble_eq_true rfl) dX11_quarrel_15
set_option maxHeartbeats 1000000 in
set_option maxRecDepth 20000 in
theorem c_told (l : Launch) (E : EV) (A : Nat → Prop) (σ : St) (M : Nat → Nat) (n wt : Int32) : Cr l E yX11_told cX11_told 3 (some .int) 2 43 [.ref (M 0), .int n, .int wt] (fun H => Md E A σ M H ∧ InvM σ) (some (.int (m_told σ n wt))) := by
  refine Cr.of (by decide +kernel) (Nat.le_of_ble_eq_true rfl) (fun pg ev s mi bel mth cd hx hb hr hml hown hu hlocks hE hP ls hl => ?_)
  have hl : lv_has ls 3 [(0, .ref (M 0)), (1, .int n), (2, .int wt)] := hl
  obtain ⟨hM, hI⟩ := hP
  refine lv_aload_n hx hb dX11_told_0 rfl (lv_at hl 0 rfl) ?_
  refine lv_iload_n hx hb dX11_told_1 rfl (lv_at hl 1 rfl) ?_
  refine cr_V (As := [.int n]) (rest := []) hx hb hml hown hu hE (c_isNotice l E A σ M n) kX11_isNotice u957 (md_obj hM) rfl rfl (⟨hM, hI⟩) ⟨Nat.le_of_ble_eq_true rfl, Nat.le_of_ble_eq_true rfl⟩ rfl hl.1 rfl (Nat.le_of_ble_eq_true rfl) ⟨Nat.le_of_ble_eq_true rfl, Nat.le_of_ble_eq_true rfl⟩ dX11_told_2 ?_
  refine onB (fun b1 => ?_) (fun b1 => ?_)
  · refine lv_if_ne (tgt := 10) hx hb dX11_told_5 (by decide) (fun _ => ?_) (fun c2 => absurd c2 (by decide))
    refine lv_iload_n hx hb dX11_told_10 rfl (lv_at hl 2 rfl) ?_
    by_cases c3 : wt = 0
    · refine lv_tableIn (tgt := 44) (off := 33) hx hb dX11_told_11 (by rw [c3]; decide) (by rw [c3]; decide) (by rw [c3]; rfl) (by decide) ?_
      refine lv_aload_n hx hb dX11_told_44 rfl (lv_at hl 0 rfl) ?_
      refine rd_get (k := 20) (v := .ref (M 20)) hx hb hown hu hE ok12 (md_obj hM) (by decide) u777 (fun _ h => h) rfl dX11_told_45 ?_
      refine lv_iload_n hx hb dX11_told_48 rfl (lv_at hl 1 rfl) ?_
      refine mr_ld (t := 20) hx hb hE hM rfl (by decide) (okN_in hI (isN_ok hI b1)) dX11_told_49 ?_
      exact cr_ri hx hb hr hlocks (by simp only [m_told, b1, decide_eq_true c3, Bool.not_true, Bool.not_false, Bool.and_true, Bool.true_and, Bool.and_false, Bool.false_and, Bool.or_true, Bool.true_or, Bool.or_false, Bool.false_or, Bool.and_self, Bool.or_self, eq_self, if_true, Bool.false_eq_true, if_false]) dX11_told_50
    by_cases c4 : wt = 1
    · refine lv_tableIn (tgt := 51) (off := 40) hx hb dX11_told_11 (by rw [c4]; decide) (by rw [c4]; decide) (by rw [c4]; rfl) (by decide) ?_
      refine lv_aload_n hx hb dX11_told_51 rfl (lv_at hl 0 rfl) ?_
      refine rd_get (k := 19) (v := .ref (M 19)) hx hb hown hu hE ok12 (md_obj hM) (by decide) u776 (fun _ h => h) rfl dX11_told_52 ?_
      refine lv_iload_n hx hb dX11_told_55 rfl (lv_at hl 1 rfl) ?_
      refine mr_ld (t := 19) hx hb hE hM rfl (by decide) (okN_in hI (isN_ok hI b1)) dX11_told_56 ?_
      exact cr_ri hx hb hr hlocks (by simp only [m_told, b1, decide_eq_false c3, decide_eq_true c4, Bool.not_true, Bool.not_false, Bool.and_true, Bool.true_and, Bool.and_false, Bool.false_and, Bool.or_true, Bool.true_or, Bool.or_false, Bool.false_or, Bool.and_self, Bool.or_self, eq_self, if_true, Bool.false_eq_true, if_false]) dX11_told_57
    by_cases c5 : wt = 2
    · refine lv_tableIn (tgt := 58) (off := 47) hx hb dX11_told_11 (by rw [c5]; decide) (by rw [c5]; decide) (by rw [c5]; rfl) (by decide) ?_
      refine lv_aload_n hx hb dX11_told_58 rfl (lv_at hl 0 rfl) ?_
      refine lv_iload_n hx hb dX11_told_59 rfl (lv_at hl 1 rfl) ?_
      refine cr_V (As := [.int n]) (rest := []) hx hb hml hown hu hE (c_objected l E A σ M n) kX11_objected u1006 (md_obj hM) rfl rfl (⟨hM, hI⟩) ⟨Nat.le_of_ble_eq_true rfl, Nat.le_of_ble_eq_true rfl⟩ rfl hl.1 rfl (Nat.le_of_ble_eq_true rfl) ⟨Nat.le_of_ble_eq_true rfl, Nat.le_of_ble_eq_true rfl⟩ dX11_told_60 ?_
      exact cr_ri hx hb hr hlocks (by simp only [m_told, b1, decide_eq_false c3, decide_eq_false c4, decide_eq_true c5, Bool.not_true, Bool.not_false, Bool.and_true, Bool.true_and, Bool.and_false, Bool.false_and, Bool.or_true, Bool.true_or, Bool.or_false, Bool.false_or, Bool.and_self, Bool.or_self, eq_self, if_true, Bool.false_eq_true, if_false]) dX11_told_63
    by_cases c6 : wt = 3
    · refine lv_tableIn (tgt := 64) (off := 53) hx hb dX11_told_11 (by rw [c6]; decide) (by rw [c6]; decide) (by rw [c6]; rfl) (by decide) ?_
      refine lv_aload_n hx hb dX11_told_64 rfl (lv_at hl 0 rfl) ?_
      refine rd_get (k := 21) (v := .ref (M 21)) hx hb hown hu hE ok12 (md_obj hM) (by decide) u778 (fun _ h => h) rfl dX11_told_65 ?_
      refine lv_iload_n hx hb dX11_told_68 rfl (lv_at hl 1 rfl) ?_
      refine mr_ld (t := 21) hx hb hE hM rfl (by decide) (okN_in hI (isN_ok hI b1)) dX11_told_69 ?_
      exact cr_ri hx hb hr hlocks (by simp only [m_told, b1, decide_eq_false c3, decide_eq_false c4, decide_eq_false c5, decide_eq_true c6, Bool.not_true, Bool.not_false, Bool.and_true, Bool.true_and, Bool.and_false, Bool.false_and, Bool.or_true, Bool.true_or, Bool.or_false, Bool.false_or, Bool.and_self, Bool.or_self, eq_self, if_true, Bool.false_eq_true, if_false]) dX11_told_70
    by_cases c7 : wt = 4
    · refine lv_tableIn (tgt := 71) (off := 60) hx hb dX11_told_11 (by rw [c7]; decide) (by rw [c7]; decide) (by rw [c7]; rfl) (by decide) ?_
      refine lv_aload_n hx hb dX11_told_71 rfl (lv_at hl 0 rfl) ?_
      refine rd_get (k := 22) (v := .ref (M 22)) hx hb hown hu hE ok12 (md_obj hM) (by decide) u779 (fun _ h => h) rfl dX11_told_72 ?_
      refine lv_iload_n hx hb dX11_told_75 rfl (lv_at hl 1 rfl) ?_
      refine mr_ld (t := 22) hx hb hE hM rfl (by decide) (okN_in hI (isN_ok hI b1)) dX11_told_76 ?_
      exact cr_ri hx hb hr hlocks (by simp only [m_told, b1, decide_eq_false c3, decide_eq_false c4, decide_eq_false c5, decide_eq_false c6, decide_eq_true c7, Bool.not_true, Bool.not_false, Bool.and_true, Bool.true_and, Bool.and_false, Bool.false_and, Bool.or_true, Bool.true_or, Bool.or_false, Bool.false_or, Bool.and_self, Bool.or_self, eq_self, if_true, Bool.false_eq_true, if_false]) dX11_told_77
    have hsw : wt.toInt < 0 ∨ 4 < wt.toInt := by
      simp only [i_eq] at c3 c4 c5 c6 c7
      have ec3 : (0 : Int32).toInt = 0 := rfl; have ec4 : (1 : Int32).toInt = 1 := rfl; have ec5 : (2 : Int32).toInt = 2 := rfl; have ec6 : (3 : Int32).toInt = 3 := rfl; have ec7 : (4 : Int32).toInt = 4 := rfl; omega
    refine lv_tableOut (tgt := 78) hx hb dX11_told_11 hsw (by decide) ?_
    refine lv_iconst (v := (-1)) hx hb dX11_told_78 (by decide) ?_
    exact cr_ri hx hb hr hlocks (by simp only [m_told, b1, decide_eq_false c3, decide_eq_false c4, decide_eq_false c5, decide_eq_false c6, decide_eq_false c7, Bool.not_true, Bool.not_false, Bool.and_true, Bool.true_and, Bool.and_false, Bool.false_and, Bool.or_true, Bool.true_or, Bool.or_false, Bool.false_or, Bool.and_self, Bool.or_self, eq_self, if_true, Bool.false_eq_true, if_false]) dX11_told_79
  · refine lv_if_ne (tgt := 10) hx hb dX11_told_5 (by decide) (fun c8 => absurd c8 (by decide)) (fun _ => ?_)
    refine lv_iconst (v := (-1)) hx hb dX11_told_8 (by decide) ?_
    exact cr_ri hx hb hr hlocks (by simp only [m_told, b1, Bool.not_true, Bool.not_false, Bool.and_true, Bool.true_and, Bool.and_false, Bool.false_and, Bool.or_true, Bool.true_or, Bool.or_false, Bool.false_or, Bool.and_self, Bool.or_self, eq_self, if_true, Bool.false_eq_true, if_false]) dX11_told_9
set_option maxHeartbeats 1000000 in
set_option maxRecDepth 20000 in
theorem c_married (l : Launch) (E : EV) (A : Nat → Prop) (σ : St) (M : Nat → Nat) (q : Int32) : Cr l E yX11_married cX11_married 2 (some .int) 2 43 [.ref (M 0), .int q] (fun H => Md E A σ M H ∧ InvM σ) (some (.int (m_married σ q))) := by
  refine Cr.of (by decide +kernel) (Nat.le_of_ble_eq_true rfl) (fun pg ev s mi bel mth cd hx hb hr hml hown hu hlocks hE hP ls hl => ?_)
  have hl : lv_has ls 2 [(0, .ref (M 0)), (1, .int q)] := hl
  obtain ⟨hM, hI⟩ := hP
  refine lv_aload_n hx hb dX11_married_0 rfl (lv_at hl 0 rfl) ?_
  refine lv_iload_n hx hb dX11_married_1 rfl (lv_at hl 1 rfl) ?_
  refine cr_V (As := [.int q]) (rest := []) hx hb hml hown hu hE (c_isPerson l E A σ M q) kX11_isPerson u880 (md_obj hM) rfl rfl (⟨hM, hI⟩) ⟨Nat.le_of_ble_eq_true rfl, Nat.le_of_ble_eq_true rfl⟩ rfl hl.1 rfl (Nat.le_of_ble_eq_true rfl) ⟨Nat.le_of_ble_eq_true rfl, Nat.le_of_ble_eq_true rfl⟩ dX11_married_2 ?_
  refine onB (fun b1 => ?_) (fun b1 => ?_)
  · refine lv_if_eq (tgt := 17) hx hb dX11_married_5 (by decide) (fun c2 => absurd c2 (by decide)) (fun _ => ?_)
    refine lv_aload_n hx hb dX11_married_8 rfl (lv_at hl 0 rfl) ?_
    refine rd_get (k := 10) (v := .ref (M 10)) hx hb hown hu hE ok12 (md_obj hM) (by decide) u767 (fun _ h => h) rfl dX11_married_9 ?_
    refine lv_iload_n hx hb dX11_married_12 rfl (lv_at hl 1 rfl) ?_
    refine mr_ld (t := 10) hx hb hE hM rfl (by decide) (okP_in hI (isP_ok hI b1)) dX11_married_13 ?_
    refine lv_goto (tgt := 18) hx hb dX11_married_14 (by decide) ?_
    exact cr_ri hx hb hr hlocks (by simp only [m_married, b1, Bool.not_true, Bool.not_false, Bool.and_true, Bool.true_and, Bool.and_false, Bool.false_and, Bool.or_true, Bool.true_or, Bool.or_false, Bool.false_or, Bool.and_self, Bool.or_self, eq_self, if_true, Bool.false_eq_true, if_false]) dX11_married_18
  · refine lv_if_eq (tgt := 17) hx hb dX11_married_5 (by decide) (fun _ => ?_) (fun c3 => absurd (by decide) c3)
    refine lv_iconst (v := (-1)) hx hb dX11_married_17 (by decide) ?_
    exact cr_ri hx hb hr hlocks (by simp only [m_married, b1, Bool.not_true, Bool.not_false, Bool.and_true, Bool.true_and, Bool.and_false, Bool.false_and, Bool.or_true, Bool.true_or, Bool.or_false, Bool.false_or, Bool.and_self, Bool.or_self, eq_self, if_true, Bool.false_eq_true, if_false]) dX11_married_18
set_option maxHeartbeats 1000000 in
set_option maxRecDepth 20000 in
theorem c_count (l : Launch) (E : EV) (A : Nat → Prop) (σ : St) (M : Nat → Nat) (wt : Int32) : Cr l E yX11_count cX11_count 4 (some .int) 0 0 [.ref (M 0), .int wt] (fun H => Md E A σ M H ∧ InvM σ) (some (.int (m_count σ wt))) := by
  refine Cr.of (by decide +kernel) (Nat.le_of_ble_eq_true rfl) (fun pg ev s mi bel mth cd hx hb hr hml hown hu hlocks hE hP ls hl => ?_)
  have hl : lv_has ls 4 [(0, .ref (M 0)), (1, .int wt)] := hl
  obtain ⟨hM, hI⟩ := hP
  have hn := cnt_le (N := 60) hI.1.2.2.2.2.1
  have hc := cnt_nI hI.1.2.2.2.2.1
  refine lv_iload_n hx hb dX11_count_0 rfl (lv_at hl 1 rfl) ?_
  by_cases c1 : wt = 0
  · refine lv_tableIn (tgt := 40) (off := 39) hx hb dX11_count_1 (by rw [c1]; decide) (by rw [c1]; decide) (by rw [c1]; rfl) (by decide) ?_
    refine lv_aload_n hx hb dX11_count_40 rfl (lv_at hl 0 rfl) ?_
    refine rd_get (k := 0) (v := .int (σ 0 0)) hx hb hown hu hE ok12 (md_obj hM) (by decide) u757 (fun _ h => h) rfl dX11_count_41 ?_
    exact cr_ri hx hb hr hlocks (by simp only [m_count, decide_eq_true c1, Bool.not_true, Bool.not_false, Bool.and_true, Bool.true_and, Bool.and_false, Bool.false_and, Bool.or_true, Bool.true_or, Bool.or_false, Bool.false_or, Bool.and_self, Bool.or_self, eq_self, if_true, Bool.false_eq_true, if_false]) dX11_count_44
  by_cases c2 : wt = 1
  · refine lv_tableIn (tgt := 45) (off := 44) hx hb dX11_count_1 (by rw [c2]; decide) (by rw [c2]; decide) (by rw [c2]; rfl) (by decide) ?_
    refine lv_aload_n hx hb dX11_count_45 rfl (lv_at hl 0 rfl) ?_
    refine rd_get (k := 11) (v := .int (σ 11 0)) hx hb hown hu hE ok12 (md_obj hM) (by decide) u768 (fun _ h => h) rfl dX11_count_46 ?_
    exact cr_ri hx hb hr hlocks (by simp only [m_count, decide_eq_false c1, decide_eq_true c2, Bool.not_true, Bool.not_false, Bool.and_true, Bool.true_and, Bool.and_false, Bool.false_and, Bool.or_true, Bool.true_or, Bool.or_false, Bool.false_or, Bool.and_self, Bool.or_self, eq_self, if_true, Bool.false_eq_true, if_false]) dX11_count_49
  by_cases c3 : wt = 2
  · refine lv_tableIn (tgt := 50) (off := 49) hx hb dX11_count_1 (by rw [c3]; decide) (by rw [c3]; decide) (by rw [c3]; rfl) (by decide) ?_
    refine lv_aload_n hx hb dX11_count_50 rfl (lv_at hl 0 rfl) ?_
    refine rd_get (k := 23) (v := .int (σ 23 0)) hx hb hown hu hE ok12 (md_obj hM) (by decide) u780 (fun _ h => h) rfl dX11_count_51 ?_
    exact cr_ri hx hb hr hlocks (by simp only [m_count, decide_eq_false c1, decide_eq_false c2, decide_eq_true c3, Bool.not_true, Bool.not_false, Bool.and_true, Bool.true_and, Bool.and_false, Bool.false_and, Bool.or_true, Bool.true_or, Bool.or_false, Bool.false_or, Bool.and_self, Bool.or_self, eq_self, if_true, Bool.false_eq_true, if_false]) dX11_count_54
  by_cases c4 : wt = 3
  · refine lv_tableIn (tgt := 55) (off := 54) hx hb dX11_count_1 (by rw [c4]; decide) (by rw [c4]; decide) (by rw [c4]; rfl) (by decide) ?_
    refine lv_aload_n hx hb dX11_count_55 rfl (lv_at hl 0 rfl) ?_
    refine rd_get (k := 30) (v := .int (σ 30 0)) hx hb hown hu hE ok12 (md_obj hM) (by decide) u787 (fun _ h => h) rfl dX11_count_56 ?_
    exact cr_ri hx hb hr hlocks (by simp only [m_count, decide_eq_false c1, decide_eq_false c2, decide_eq_false c3, decide_eq_true c4, Bool.not_true, Bool.not_false, Bool.and_true, Bool.true_and, Bool.and_false, Bool.false_and, Bool.or_true, Bool.true_or, Bool.or_false, Bool.false_or, Bool.and_self, Bool.or_self, eq_self, if_true, Bool.false_eq_true, if_false]) dX11_count_59
  by_cases c5 : wt = 4
  · refine lv_tableIn (tgt := 60) (off := 59) hx hb dX11_count_1 (by rw [c5]; decide) (by rw [c5]; decide) (by rw [c5]; rfl) (by decide) ?_
    refine lv_aload_n hx hb dX11_count_60 rfl (lv_at hl 0 rfl) ?_
    refine rd_get (k := 26) (v := .int (σ 26 0)) hx hb hown hu hE ok12 (md_obj hM) (by decide) u783 (fun _ h => h) rfl dX11_count_61 ?_
    exact cr_ri hx hb hr hlocks (by simp only [m_count, decide_eq_false c1, decide_eq_false c2, decide_eq_false c3, decide_eq_false c4, decide_eq_true c5, Bool.not_true, Bool.not_false, Bool.and_true, Bool.true_and, Bool.and_false, Bool.false_and, Bool.or_true, Bool.true_or, Bool.or_false, Bool.false_or, Bool.and_self, Bool.or_self, eq_self, if_true, Bool.false_eq_true, if_false]) dX11_count_64
  by_cases c6 : wt = 5
  · refine lv_tableIn (tgt := 65) (off := 64) hx hb dX11_count_1 (by rw [c6]; decide) (by rw [c6]; decide) (by rw [c6]; rfl) (by decide) ?_
    refine lv_iconst (v := 0) hx hb dX11_count_65 (by decide) ?_
    refine lv_istore_n (lv' := [(2, .int 0), (0, .ref (M 0)), (1, .int wt)]) hx hb dX11_count_66 rfl hl (by decide) rfl (fun ls hl => ?_)
    refine lv_iconst (v := 0) hx hb dX11_count_67 (by decide) ?_
    refine lv_istore_n (lv' := [(3, .int 0), (2, .int 0), (0, .ref (M 0)), (1, .int wt)]) hx hb dX11_count_68 rfl hl (by decide) rfl (fun ls hl => ?_)
    obtain ⟨T, hT⟩ : ∃ z, z = m_opL σ (nn σ 23) 0 0 := ⟨_, rfl⟩
    have lo : ∀ (f k : Nat) (r : Int32), (k + f = nn σ 23) → (m_opL σ f k r = T) → ∀ (ls : Array Slot), lv_has ls 4 [(0, .ref (M 0)), (2, .int r), (3, .int (nI k))] → W pg l ev { frames := 0, cells := 0, slots := 0, locals := 0 } s mi [.ref (M 0), .int wt].toArray bel mth cd s.heap [] 0 0 (QR bel s [.ref (M 0), .int wt].toArray (some (.int (m_count σ wt)))) (F0 mi 69 ls []) := by
      intro f
      induction f with
      | zero =>
        intro k r hk hi ls hl
        refine lv_iload_n hx hb dX11_count_69 rfl (lv_at hl 2 rfl) ?_
        refine lv_aload_n hx hb dX11_count_70 rfl (lv_at hl 0 rfl) ?_
        refine rd_get (k := 23) (v := .int (σ 23 0)) hx hb hown hu hE ok12 (md_obj hM) (by decide) u780 (fun _ h => h) rfl dX11_count_71 ?_
        refine lv_icmp_ge (tgt := 110) hx hb dX11_count_74 (by decide) (fun c7 => ?_) (fun c7 => absurd (by rw [hc]; exact nI_le (by omega) (by omega)) c7)
        refine lv_iload_n hx hb dX11_count_110 rfl (lv_at hl 1 rfl) ?_
        exact cr_ri hx hb hr hlocks (by simp only [m_opL] at hi; simp only [m_count, decide_eq_false c1, decide_eq_false c2, decide_eq_false c3, decide_eq_false c4, decide_eq_false c5, decide_eq_true c6, Bool.not_true, Bool.not_false, Bool.and_true, Bool.true_and, Bool.and_false, Bool.false_and, Bool.or_true, Bool.true_or, Bool.or_false, Bool.false_or, Bool.and_self, Bool.or_self, eq_self, if_true, Bool.false_eq_true, if_false]; rw [← hT, ← hi]) dX11_count_111
      | succ f ih =>
        intro k r hk hi ls hl
        refine lv_iload_n hx hb dX11_count_69 rfl (lv_at hl 2 rfl) ?_
        refine lv_aload_n hx hb dX11_count_70 rfl (lv_at hl 0 rfl) ?_
        refine rd_get (k := 23) (v := .int (σ 23 0)) hx hb hown hu hE ok12 (md_obj hM) (by decide) u780 (fun _ h => h) rfl dX11_count_71 ?_
        refine lv_icmp_ge (tgt := 110) hx hb dX11_count_74 (by decide) (fun c8 => absurd c8 (by rw [hc]; exact nI_ge (by omega) (by omega))) (fun c8 => ?_)
        refine lv_iload_n hx hb dX11_count_77 rfl (lv_at hl 1 rfl) ?_
        refine lv_aload_n hx hb dX11_count_78 rfl (lv_at hl 0 rfl) ?_
        refine rd_get (k := 20) (v := .ref (M 20)) hx hb hown hu hE ok12 (md_obj hM) (by decide) u777 (fun _ h => h) rfl dX11_count_79 ?_
        refine lv_iload_n hx hb dX11_count_82 rfl (lv_at hl 2 rfl) ?_
        refine mr_ld (t := 20) hx hb hE hM rfl (by decide) (vp_in_nI (N := 60) (by omega) (by decide)) dX11_count_83 ?_
        refine lv_if_ne (tgt := 101) hx hb dX11_count_84 (by decide) (fun c9 => ?_) (fun c9 => ?_)
        · refine lv_iconst (v := 0) hx hb dX11_count_101 (by decide) ?_
          refine lv_iadd hx hb dX11_count_102 ?_
          refine lv_istore_n (lv' := [(2, .int (r + 0)), (0, .ref (M 0)), (3, .int (nI k))]) hx hb dX11_count_103 rfl hl (by decide) rfl (fun ls hl => ?_)
          refine lv_iinc (v := nI (k + 1)) (lv' := [(3, .int (nI (k + 1))), (2, .int (r + 0)), (0, .ref (M 0))]) hx hb dX11_count_104 hl (k := 2) rfl (nI_1 k) (by decide) rfl (fun ls hl => ?_)
          refine lv_goto (tgt := 69) hx hb dX11_count_107 (by decide) ?_
          exact ih (k + 1) _ (by omega) (by simp only [m_opL, decide_eq_false c1, decide_eq_false c2, decide_eq_false c3, decide_eq_false c4, decide_eq_false c5, decide_eq_true c6, decide_eq_false c9, Bool.not_true, Bool.not_false, Bool.and_true, Bool.true_and, Bool.and_false, Bool.false_and, Bool.or_true, Bool.true_or, Bool.or_false, Bool.false_or, Bool.and_self, Bool.or_self, eq_self, if_true, Bool.false_eq_true, if_false] at hi; exact hi) _ (lv_sub hl [2, 1, 0] rfl)
        · refine lv_aload_n hx hb dX11_count_87 rfl (lv_at hl 0 rfl) ?_
          refine rd_get (k := 21) (v := .ref (M 21)) hx hb hown hu hE ok12 (md_obj hM) (by decide) u778 (fun _ h => h) rfl dX11_count_88 ?_
          refine lv_iload_n hx hb dX11_count_91 rfl (lv_at hl 2 rfl) ?_
          refine mr_ld (t := 21) hx hb hE hM rfl (by decide) (vp_in_nI (N := 60) (by omega) (by decide)) dX11_count_92 ?_
          refine lv_iconst (v := (-1)) hx hb dX11_count_93 (by decide) ?_
          refine lv_icmp_eq (tgt := 101) hx hb dX11_count_94 (by decide) (fun c10 => ?_) (fun c10 => ?_)
          · refine lv_iconst (v := 0) hx hb dX11_count_101 (by decide) ?_
            refine lv_iadd hx hb dX11_count_102 ?_
            refine lv_istore_n (lv' := [(2, .int (r + 0)), (0, .ref (M 0)), (3, .int (nI k))]) hx hb dX11_count_103 rfl hl (by decide) rfl (fun ls hl => ?_)
            refine lv_iinc (v := nI (k + 1)) (lv' := [(3, .int (nI (k + 1))), (2, .int (r + 0)), (0, .ref (M 0))]) hx hb dX11_count_104 hl (k := 2) rfl (nI_1 k) (by decide) rfl (fun ls hl => ?_)
            refine lv_goto (tgt := 69) hx hb dX11_count_107 (by decide) ?_
            exact ih (k + 1) _ (by omega) (by simp only [m_opL, decide_eq_false c1, decide_eq_false c2, decide_eq_false c3, decide_eq_false c4, decide_eq_false c5, decide_eq_true c6, decide_eq_true c9, decide_eq_true c10, Bool.not_true, Bool.not_false, Bool.and_true, Bool.true_and, Bool.and_false, Bool.false_and, Bool.or_true, Bool.true_or, Bool.or_false, Bool.false_or, Bool.and_self, Bool.or_self, eq_self, if_true, Bool.false_eq_true, if_false] at hi; exact hi) _ (lv_sub hl [2, 1, 0] rfl)
          · refine lv_iconst (v := 1) hx hb dX11_count_97 (by decide) ?_
            refine lv_goto (tgt := 102) hx hb dX11_count_98 (by decide) ?_
            refine lv_iadd hx hb dX11_count_102 ?_
            refine lv_istore_n (lv' := [(2, .int (r + 1)), (0, .ref (M 0)), (3, .int (nI k))]) hx hb dX11_count_103 rfl hl (by decide) rfl (fun ls hl => ?_)
            refine lv_iinc (v := nI (k + 1)) (lv' := [(3, .int (nI (k + 1))), (2, .int (r + 1)), (0, .ref (M 0))]) hx hb dX11_count_104 hl (k := 2) rfl (nI_1 k) (by decide) rfl (fun ls hl => ?_)
            refine lv_goto (tgt := 69) hx hb dX11_count_107 (by decide) ?_
            exact ih (k + 1) _ (by omega) (by simp only [m_opL, decide_eq_false c1, decide_eq_false c2, decide_eq_false c3, decide_eq_false c4, decide_eq_false c5, decide_eq_true c6, decide_eq_true c9, decide_eq_false c10, Bool.not_true, Bool.not_false, Bool.and_true, Bool.true_and, Bool.and_false, Bool.false_and, Bool.or_true, Bool.true_or, Bool.or_false, Bool.false_or, Bool.and_self, Bool.or_self, eq_self, if_true, Bool.false_eq_true, if_false] at hi; exact hi) _ (lv_sub hl [2, 1, 0] rfl)
    exact lo (nn σ 23) 0 0 (by omega) hT.symm _ (lv_sub hl [2, 1, 0] rfl)
  have hsw : wt.toInt < 0 ∨ 5 < wt.toInt := by
    simp only [i_eq] at c1 c2 c3 c4 c5 c6
    have ec1 : (0 : Int32).toInt = 0 := rfl; have ec2 : (1 : Int32).toInt = 1 := rfl; have ec3 : (2 : Int32).toInt = 2 := rfl; have ec4 : (3 : Int32).toInt = 3 := rfl; have ec5 : (4 : Int32).toInt = 4 := rfl; have ec6 : (5 : Int32).toInt = 5 := rfl; omega
  refine lv_tableOut (tgt := 112) hx hb dX11_count_1 hsw (by decide) ?_
  refine lv_iconst (v := (-1)) hx hb dX11_count_112 (by decide) ?_
  exact cr_ri hx hb hr hlocks (by simp only [m_count, decide_eq_false c1, decide_eq_false c2, decide_eq_false c3, decide_eq_false c4, decide_eq_false c5, decide_eq_false c6, Bool.not_true, Bool.not_false, Bool.and_true, Bool.true_and, Bool.and_false, Bool.false_and, Bool.or_true, Bool.true_or, Bool.or_false, Bool.false_or, Bool.and_self, Bool.or_self, eq_self, if_true, Bool.false_eq_true, if_false]) dX11_count_113
