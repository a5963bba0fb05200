set_option maxHeartbeats 1000000 in
set_option maxRecDepth 20000 in
theorem x_fill (l : Launch) (E : EV) (A : Nat → Prop) (σ : St) (L : Nat → Nat → Nat) (d lo : Int32) : Ct l E yX10_fillPlan cX10_fillPlan 5 none 3 64 0 0 A [.ref (L 0 0), .int d, .ref (L 22 lo.toNatClampNeg)] (fun H => Cd E A σ L H ∧ InvM σ ∧ okN σ lo) (fun v H => v = none ∧ Cd E A σ L H ∧ plK E L (c_fill σ d lo).1 (c_fill σ d lo).2 H) := by
  refine Ct.of (by decide +kernel) (Nat.le_of_ble_eq_true rfl) (fun pg ev s mi bel mth cd hx hb hr hml hown hu hlocks hnm hE hP hA hZ ls hl => ?_)
  have hl : lv_has ls 5 [(0, .ref (L 0 0)), (1, .int d), (2, .ref (L 22 lo.toNatClampNeg))] := hl
  have hS : va_S A s.heap s.heap [] := va_S.rf
  obtain ⟨hC, hI, hLo⟩ := hP
  have hn := cnt_le (N := 60) hI.1.2.2.2.2.1
  have hc := cnt_nI hI.1.2.2.2.2.1
  refine lv_aload_n hx hb dX10_fillPlan_0 rfl (lv_at hl 0 rfl) ?_
  refine rd_get (k := 11) (v := .ref (L 6 0)) hx hb hown hu hE ok11 (cd_reg hC) (by decide) u148 (fun _ h => h) rfl dX10_fillPlan_1 ?_
  refine ct_V (As := []) (rest := []) hx hb hml hown hu hE hZ hS (fun _ h => h) (fun q h => hA q (Nat.le_trans hS.1 h)) (x_clear l E A σ L) kX2_clear u586 (cd_pl hC) rfl rfl (⟨hC, hI⟩) ⟨Nat.le_of_ble_eq_true rfl, Nat.le_of_ble_eq_true rfl⟩ rfl hl.1 rfl (Nat.le_of_ble_eq_true rfl) ⟨Nat.le_of_ble_eq_true rfl, Nat.le_of_ble_eq_true rfl⟩ dX10_fillPlan_4 (fun v1 H1 locs1 hR hS hz hk => ?_)
  obtain ⟨rfl, hC, hPl⟩ := hR
  refine lv_iconst (v := 0) hx hb dX10_fillPlan_7 (by decide) ?_
  refine lv_istore_n (lv' := [(3, .int 0), (0, .ref (L 0 0)), (1, .int d), (2, .ref (L 22 lo.toNatClampNeg))]) hx hb dX10_fillPlan_8 rfl hl (by decide) rfl (fun ls hl => ?_)
  obtain ⟨T, hT⟩ : ∃ z, z = c_fill σ d lo := ⟨_, rfl⟩
  have lo_ : ∀ (f k : Nat) (pl : Pl), (k + f = nn σ 23) → (c_fiL σ d lo f k pl = T) → ∀ (H1 : Heap) (locs1 : List Loc), Cd E A σ L H1 → plK E L pl.1 pl.2 H1 → va_S A s.heap H1 locs1 → ∀ (ls : Array Slot), lv_has ls 5 [(0, .ref (L 0 0)), (1, .int d), (2, .ref (L 22 lo.toNatClampNeg)), (3, .int (nI k))] → W pg l ev { frames := 3, cells := 0, slots := 0, locals := 64 } s mi [.ref (L 0 0), .int d, .ref (L 22 lo.toNatClampNeg)].toArray bel mth cd H1 locs1 0 0 (QT bel s [.ref (L 0 0), .int d, .ref (L 22 lo.toNatClampNeg)].toArray 0 0 A (fun v H => v = none ∧ Cd E A σ L H ∧ plK E L (c_fill σ d lo).1 (c_fill σ d lo).2 H)) (F0 mi 9 ls []) := by
    intro f
    induction f with
    | zero =>
      intro k pl hk hi H1 locs1 hC hPl hS ls hl
      refine lv_iload_n hx hb dX10_fillPlan_9 rfl (lv_at hl 3 rfl) ?_
      refine lv_aload_n hx hb dX10_fillPlan_10 rfl (lv_at hl 0 rfl) ?_
      refine rd_get (k := 7) (v := .ref (L 9 2)) hx hb hown hu hE ok11 (cd_reg hC) (by decide) u144 (fun _ h => h) rfl dX10_fillPlan_11 ?_
      refine cr_V (As := []) (rest := [.int (nI k)]) hx hb hml hown hu hE (c_LS2 l E A σ L) kJx4a65c_size_8abf5 u266 ((cd_lex hC (j := 2) (by omega)).choose_spec) rfl rfl (⟨hC, hI⟩) ⟨Nat.le_of_ble_eq_true rfl, Nat.le_of_ble_eq_true rfl⟩ rfl hl.1 rfl (Nat.le_of_ble_eq_true rfl) ⟨Nat.le_of_ble_eq_true rfl, Nat.le_of_ble_eq_true rfl⟩ dX10_fillPlan_14 ?_
      refine lv_icmp_ge (tgt := 74) hx hb dX10_fillPlan_17 (by decide) (fun c2 => ?_) (fun c2 => absurd (by rw [hc]; exact nI_le (by omega) (by omega)) c2)
      exact ct_rv hx hb hr hlocks hS (by simp only [c_fiL] at hi; (have hf : c_fill σ d lo = pl := hT.symm.trans hi.symm); rw [hf]; exact ⟨rfl, hC, hPl⟩) (Nat.le_of_ble_eq_true rfl) (Nat.le_of_ble_eq_true rfl) dX10_fillPlan_74
    | succ f ih =>
      intro k pl hk hi H1 locs1 hC hPl hS ls hl
      refine lv_iload_n hx hb dX10_fillPlan_9 rfl (lv_at hl 3 rfl) ?_
      refine lv_aload_n hx hb dX10_fillPlan_10 rfl (lv_at hl 0 rfl) ?_
      refine rd_get (k := 7) (v := .ref (L 9 2)) hx hb hown hu hE ok11 (cd_reg hC) (by decide) u144 (fun _ h => h) rfl dX10_fillPlan_11 ?_
      refine cr_V (As := []) (rest := [.int (nI k)]) hx hb hml hown hu hE (c_LS2 l E A σ L) kJx4a65c_size_8abf5 u266 ((cd_lex hC (j := 2) (by omega)).choose_spec) rfl rfl (⟨hC, hI⟩) ⟨Nat.le_of_ble_eq_true rfl, Nat.le_of_ble_eq_true rfl⟩ rfl hl.1 rfl (Nat.le_of_ble_eq_true rfl) ⟨Nat.le_of_ble_eq_true rfl, Nat.le_of_ble_eq_true rfl⟩ dX10_fillPlan_14 ?_
      refine lv_icmp_ge (tgt := 74) hx hb dX10_fillPlan_17 (by decide) (fun c3 => absurd c3 (by rw [hc]; exact nI_ge (by omega) (by omega))) (fun c3 => ?_)
      refine lv_aload_n hx hb dX10_fillPlan_20 rfl (lv_at hl 0 rfl) ?_
      refine rd_get (k := 7) (v := .ref (L 9 2)) hx hb hown hu hE ok11 (cd_reg hC) (by decide) u144 (fun _ h => h) rfl dX10_fillPlan_21 ?_
      refine lv_iload_n hx hb dX10_fillPlan_24 rfl (lv_at hl 3 rfl) ?_
      refine cr_V (As := [.int (nI k)]) (rest := []) hx hb hml hown hu hE (c_LG2 l E A σ L (nI k)) kJx4a65c_get_915e3 u275 ((cd_lex hC (j := 2) (by omega)).choose_spec) rfl rfl (⟨hC, nI_okN hI (by omega)⟩) ⟨Nat.le_of_ble_eq_true rfl, Nat.le_of_ble_eq_true rfl⟩ rfl hl.1 rfl (Nat.le_of_ble_eq_true rfl) ⟨Nat.le_of_ble_eq_true rfl, Nat.le_of_ble_eq_true rfl⟩ dX10_fillPlan_25 ?_
      refine cl_cast hx hb hown hu hE ok7 u437 (cd_not hC (okN_lt (nI_okN hI (by omega)))) dX10_fillPlan_28 ?_
      refine lv_astore (lv' := [(4, .ref (L 22 (nI k).toNatClampNeg)), (0, .ref (L 0 0)), (1, .int d), (2, .ref (L 22 lo.toNatClampNeg)), (3, .int (nI k))]) hx hb dX10_fillPlan_31 hl (by decide) rfl (fun ls hl => ?_)
      refine lv_aload hx hb dX10_fillPlan_33 (lv_at hl 0 rfl) ?_
      refine lv_aload_n hx hb dX10_fillPlan_35 rfl (lv_at hl 3 rfl) ?_
      refine ac_eq (x := nI k) (y := lo) (tgt := 68) hx hb (not_inj hC (nI_okN hI (by omega)) hLo) (fun z => by rw [z]) dX10_fillPlan_36 (by decide) (fun c4 => ?_) (fun c4 => ?_)
      · refine lv_iinc (v := nI (k + 1)) (lv' := [(3, .int (nI (k + 1))), (4, .ref (L 22 (nI k).toNatClampNeg)), (0, .ref (L 0 0)), (1, .int d), (2, .ref (L 22 lo.toNatClampNeg))]) hx hb dX10_fillPlan_68 hl (k := 4) rfl (nI_1 k) (by decide) rfl (fun ls hl => ?_)
        refine lv_goto (tgt := 9) hx hb dX10_fillPlan_71 (by decide) ?_
        exact ih (k + 1) _ (by omega) (by simp only [c_fiL, c_fC, decide_eq_true c4, Bool.not_true, Bool.not_false, Bool.and_true, Bool.true_and, Bool.and_false, Bool.false_and, Bool.or_true, Bool.true_or, Bool.or_false, Bool.false_or, Bool.and_self, Bool.or_self, eq_self, if_true, Bool.false_eq_true, if_false] at hi; exact hi) _ _ hC hPl hS _ (lv_sub hl [2, 3, 4, 0] rfl)
      · refine lv_aload hx hb dX10_fillPlan_39 (lv_at hl 0 rfl) ?_
        refine cr_V (As := []) (rest := []) hx hb hml hown hu hE (x_isBk l E A σ L (nI k)) kX6_isBooked u593 (cd_not hC (okN_lt (nI_okN hI (by omega)))) rfl rfl (⟨hC, hI, (nI_okN hI (by omega))⟩) ⟨Nat.le_of_ble_eq_true rfl, Nat.le_of_ble_eq_true rfl⟩ rfl hl.1 rfl (Nat.le_of_ble_eq_true rfl) ⟨Nat.le_of_ble_eq_true rfl, Nat.le_of_ble_eq_true rfl⟩ dX10_fillPlan_41 ?_
        refine onB (fun b5 => ?_) (fun b5 => ?_)
        · refine lv_if_eq (tgt := 68) hx hb dX10_fillPlan_44 (by decide) (fun c6 => absurd c6 (by decide)) (fun _ => ?_)
          refine lv_aload hx hb dX10_fillPlan_47 (lv_at hl 0 rfl) ?_
          refine rd_get (k := 6) (v := .int (gA σ 21 (nI k))) hx hb hown hu hE ok7 (cd_not hC (okN_lt (nI_okN hI (by omega)))) (by decide) u462 (fun _ h => h) rfl dX10_fillPlan_49 ?_
          refine lv_iload_n hx hb dX10_fillPlan_52 rfl (lv_at hl 2 rfl) ?_
          refine lv_icmp_ne (tgt := 68) hx hb dX10_fillPlan_53 (by decide) (fun c7 => ?_) (fun c7 => ?_)
          · refine lv_iinc (v := nI (k + 1)) (lv' := [(3, .int (nI (k + 1))), (4, .ref (L 22 (nI k).toNatClampNeg)), (0, .ref (L 0 0)), (1, .int d), (2, .ref (L 22 lo.toNatClampNeg))]) hx hb dX10_fillPlan_68 hl (k := 4) rfl (nI_1 k) (by decide) rfl (fun ls hl => ?_)
            refine lv_goto (tgt := 9) hx hb dX10_fillPlan_71 (by decide) ?_
            exact ih (k + 1) _ (by omega) (by simp only [c_fiL, c_fC, decide_eq_false c4, b5, decide_eq_false c7, Bool.not_true, Bool.not_false, Bool.and_true, Bool.true_and, Bool.and_false, Bool.false_and, Bool.or_true, Bool.true_or, Bool.or_false, Bool.false_or, Bool.and_self, Bool.or_self, eq_self, if_true, Bool.false_eq_true, if_false] at hi; exact hi) _ _ hC hPl hS _ (lv_sub hl [2, 3, 4, 0] rfl)
          · refine lv_aload_n hx hb dX10_fillPlan_56 rfl (lv_at hl 1 rfl) ?_
            refine rd_get (k := 11) (v := .ref (L 6 0)) hx hb hown hu hE ok11 (cd_reg hC) (by decide) u148 (fun _ h => h) rfl dX10_fillPlan_57 ?_
            refine lv_aload hx hb dX10_fillPlan_60 (lv_at hl 0 rfl) ?_
            refine rd_get (k := 7) (v := .int (gA σ 22 (nI k))) hx hb hown hu hE ok7 (cd_not hC (okN_lt (nI_okN hI (by omega)))) (by decide) u465 (fun _ h => h) rfl dX10_fillPlan_62 ?_
            refine ct_V (As := [.int (gA σ 22 (nI k))]) (rest := []) hx hb hml hown hu hE hZ hS (fun _ h => h) (fun q h => hA q (Nat.le_trans hS.1 h)) (x_take l E A σ L pl (gA σ 22 (nI k))) kX2_take u597 (cd_pl hC) rfl rfl (⟨hC, hI, hPl⟩) ⟨Nat.le_of_ble_eq_true rfl, Nat.le_of_ble_eq_true rfl⟩ rfl hl.1 rfl (Nat.le_of_ble_eq_true rfl) ⟨Nat.le_of_ble_eq_true rfl, Nat.le_of_ble_eq_true rfl⟩ dX10_fillPlan_65 (fun v8 H1 locs1 hR hS hz hk => ?_)
            obtain ⟨rfl, hC, hPl⟩ := hR
            refine lv_iinc (v := nI (k + 1)) (lv' := [(3, .int (nI (k + 1))), (4, .ref (L 22 (nI k).toNatClampNeg)), (0, .ref (L 0 0)), (1, .int d), (2, .ref (L 22 lo.toNatClampNeg))]) hx hb dX10_fillPlan_68 hl (k := 4) rfl (nI_1 k) (by decide) rfl (fun ls hl => ?_)
            refine lv_goto (tgt := 9) hx hb dX10_fillPlan_71 (by decide) ?_
            exact ih (k + 1) _ (by omega) (by simp only [c_fiL, c_fC, decide_eq_false c4, b5, decide_eq_true c7, Bool.not_true, Bool.not_false, Bool.and_true, Bool.true_and, Bool.and_false, Bool.false_and, Bool.or_true, Bool.true_or, Bool.or_false, Bool.false_or, Bool.and_self, Bool.or_self, eq_self, if_true, Bool.false_eq_true, if_false] at hi; exact hi) _ _ hC hPl hS _ (lv_sub hl [2, 3, 4, 0] rfl)
        · refine lv_if_eq (tgt := 68) hx hb dX10_fillPlan_44 (by decide) (fun _ => ?_) (fun c9 => absurd (by decide) c9)
          refine lv_iinc (v := nI (k + 1)) (lv' := [(3, .int (nI (k + 1))), (4, .ref (L 22 (nI k).toNatClampNeg)), (0, .ref (L 0 0)), (1, .int d), (2, .ref (L 22 lo.toNatClampNeg))]) hx hb dX10_fillPlan_68 hl (k := 4) rfl (nI_1 k) (by decide) rfl (fun ls hl => ?_)
          refine lv_goto (tgt := 9) hx hb dX10_fillPlan_71 (by decide) ?_
          exact ih (k + 1) _ (by omega) (by simp only [c_fiL, c_fC, decide_eq_false c4, b5, Bool.not_true, Bool.not_false, Bool.and_true, Bool.true_and, Bool.and_false, Bool.false_and, Bool.or_true, Bool.true_or, Bool.or_false, Bool.false_or, Bool.and_self, Bool.or_self, eq_self, if_true, Bool.false_eq_true, if_false] at hi; exact hi) _ _ hC hPl hS _ (lv_sub hl [2, 3, 4, 0] rfl)
  exact lo_ (nn σ 23) 0 pl0 (by omega) hT.symm _ _ hC hPl hS _ (lv_sub hl [1, 2, 3, 0] rfl)
set_option maxHeartbeats 1000000 in
set_option maxRecDepth 20000 in
theorem x_fill0 (l : Launch) (E : EV) (A : Nat → Prop) (σ : St) (L : Nat → Nat → Nat) (d : Int32) : Ct l E yX10_fillPlan cX10_fillPlan 5 none 3 64 0 0 A [.ref (L 0 0), .int d, .null] (fun H => Cd E A σ L H ∧ InvM σ) (fun v H => v = none ∧ Cd E A σ L H ∧ plK E L (c_fill σ d (-1)).1 (c_fill σ d (-1)).2 H) := by
  refine Ct.of (by decide +kernel) (Nat.le_of_ble_eq_true rfl) (fun pg ev s mi bel mth cd hx hb hr hml hown hu hlocks hnm hE hP hA hZ ls hl => ?_)
  have hl : lv_has ls 5 [(0, .ref (L 0 0)), (1, .int d), (2, .null)] := hl
  have hS : va_S A s.heap s.heap [] := va_S.rf
  obtain ⟨hC, hI⟩ := hP
  have hn := cnt_le (N := 60) hI.1.2.2.2.2.1
  have hc := cnt_nI hI.1.2.2.2.2.1
  refine lv_aload_n hx hb dX10_fillPlan_0 rfl (lv_at hl 0 rfl) ?_
  refine rd_get (k := 11) (v := .ref (L 6 0)) hx hb hown hu hE ok11 (cd_reg hC) (by decide) u148 (fun _ h => h) rfl dX10_fillPlan_1 ?_
  refine ct_V (As := []) (rest := []) hx hb hml hown hu hE hZ hS (fun _ h => h) (fun q h => hA q (Nat.le_trans hS.1 h)) (x_clear l E A σ L) kX2_clear u586 (cd_pl hC) rfl rfl (⟨hC, hI⟩) ⟨Nat.le_of_ble_eq_true rfl, Nat.le_of_ble_eq_true rfl⟩ rfl hl.1 rfl (Nat.le_of_ble_eq_true rfl) ⟨Nat.le_of_ble_eq_true rfl, Nat.le_of_ble_eq_true rfl⟩ dX10_fillPlan_4 (fun v1 H1 locs1 hR hS hz hk => ?_)
  obtain ⟨rfl, hC, hPl⟩ := hR
  refine lv_iconst (v := 0) hx hb dX10_fillPlan_7 (by decide) ?_
  refine lv_istore_n (lv' := [(3, .int 0), (0, .ref (L 0 0)), (1, .int d), (2, .null)]) hx hb dX10_fillPlan_8 rfl hl (by decide) rfl (fun ls hl => ?_)
  obtain ⟨T, hT⟩ : ∃ z, z = c_fill σ d (-1) := ⟨_, rfl⟩
  have lo_ : ∀ (f k : Nat) (pl : Pl), (k + f = nn σ 23) → (c_fiL σ d (-1) f k pl = T) → ∀ (H1 : Heap) (locs1 : List Loc), Cd E A σ L H1 → plK E L pl.1 pl.2 H1 → va_S A s.heap H1 locs1 → ∀ (ls : Array Slot), lv_has ls 5 [(0, .ref (L 0 0)), (1, .int d), (2, .null), (3, .int (nI k))] → W pg l ev { frames := 3, cells := 0, slots := 0, locals := 64 } s mi [.ref (L 0 0), .int d, .null].toArray bel mth cd H1 locs1 0 0 (QT bel s [.ref (L 0 0), .int d, .null].toArray 0 0 A (fun v H => v = none ∧ Cd E A σ L H ∧ plK E L (c_fill σ d (-1)).1 (c_fill σ d (-1)).2 H)) (F0 mi 9 ls []) := by
    intro f
    induction f with
    | zero =>
      intro k pl hk hi H1 locs1 hC hPl hS ls hl
      refine lv_iload_n hx hb dX10_fillPlan_9 rfl (lv_at hl 3 rfl) ?_
      refine lv_aload_n hx hb dX10_fillPlan_10 rfl (lv_at hl 0 rfl) ?_
      refine rd_get (k := 7) (v := .ref (L 9 2)) hx hb hown hu hE ok11 (cd_reg hC) (by decide) u144 (fun _ h => h) rfl dX10_fillPlan_11 ?_
      refine cr_V (As := []) (rest := [.int (nI k)]) hx hb hml hown hu hE (c_LS2 l E A σ L) kJx4a65c_size_8abf5 u266 ((cd_lex hC (j := 2) (by omega)).choose_spec) rfl rfl (⟨hC, hI⟩) ⟨Nat.le_of_ble_eq_true rfl, Nat.le_of_ble_eq_true rfl⟩ rfl hl.1 rfl (Nat.le_of_ble_eq_true rfl) ⟨Nat.le_of_ble_eq_true rfl, Nat.le_of_ble_eq_true rfl⟩ dX10_fillPlan_14 ?_
      refine lv_icmp_ge (tgt := 74) hx hb dX10_fillPlan_17 (by decide) (fun c2 => ?_) (fun c2 => absurd (by rw [hc]; exact nI_le (by omega) (by omega)) c2)
      exact ct_rv hx hb hr hlocks hS (by simp only [c_fiL] at hi; (have hf : c_fill σ d (-1) = pl := hT.symm.trans hi.symm); rw [hf]; exact ⟨rfl, hC, hPl⟩) (Nat.le_of_ble_eq_true rfl) (Nat.le_of_ble_eq_true rfl) dX10_fillPlan_74
    | succ f ih =>
      intro k pl hk hi H1 locs1 hC hPl hS ls hl
      have hne : decide (nI k = -1) = false := decide_eq_false (nI_ne1 (by omega))
      refine lv_iload_n hx hb dX10_fillPlan_9 rfl (lv_at hl 3 rfl) ?_
      refine lv_aload_n hx hb dX10_fillPlan_10 rfl (lv_at hl 0 rfl) ?_
      refine rd_get (k := 7) (v := .ref (L 9 2)) hx hb hown hu hE ok11 (cd_reg hC) (by decide) u144 (fun _ h => h) rfl dX10_fillPlan_11 ?_
      refine cr_V (As := []) (rest := [.int (nI k)]) hx hb hml hown hu hE (c_LS2 l E A σ L) kJx4a65c_size_8abf5 u266 ((cd_lex hC (j := 2) (by omega)).choose_spec) rfl rfl (⟨hC, hI⟩) ⟨Nat.le_of_ble_eq_true rfl, Nat.le_of_ble_eq_true rfl⟩ rfl hl.1 rfl (Nat.le_of_ble_eq_true rfl) ⟨Nat.le_of_ble_eq_true rfl, Nat.le_of_ble_eq_true rfl⟩ dX10_fillPlan_14 ?_
      refine lv_icmp_ge (tgt := 74) hx hb dX10_fillPlan_17 (by decide) (fun c3 => absurd c3 (by rw [hc]; exact nI_ge (by omega) (by omega))) (fun c3 => ?_)
      refine lv_aload_n hx hb dX10_fillPlan_20 rfl (lv_at hl 0 rfl) ?_
      refine rd_get (k := 7) (v := .ref (L 9 2)) hx hb hown hu hE ok11 (cd_reg hC) (by decide) u144 (fun _ h => h) rfl dX10_fillPlan_21 ?_
      refine lv_iload_n hx hb dX10_fillPlan_24 rfl (lv_at hl 3 rfl) ?_
      refine cr_V (As := [.int (nI k)]) (rest := []) hx hb hml hown hu hE (c_LG2 l E A σ L (nI k)) kJx4a65c_get_915e3 u275 ((cd_lex hC (j := 2) (by omega)).choose_spec) rfl rfl (⟨hC, nI_okN hI (by omega)⟩) ⟨Nat.le_of_ble_eq_true rfl, Nat.le_of_ble_eq_true rfl⟩ rfl hl.1 rfl (Nat.le_of_ble_eq_true rfl) ⟨Nat.le_of_ble_eq_true rfl, Nat.le_of_ble_eq_true rfl⟩ dX10_fillPlan_25 ?_
      refine cl_cast hx hb hown hu hE ok7 u437 (cd_not hC (okN_lt (nI_okN hI (by omega)))) dX10_fillPlan_28 ?_
      refine lv_astore (lv' := [(4, .ref (L 22 (nI k).toNatClampNeg)), (0, .ref (L 0 0)), (1, .int d), (2, .null), (3, .int (nI k))]) hx hb dX10_fillPlan_31 hl (by decide) rfl (fun ls hl => ?_)
      refine lv_aload hx hb dX10_fillPlan_33 (lv_at hl 0 rfl) ?_
      refine lv_aload_nN hx hb dX10_fillPlan_35 rfl (lv_at hl 3 rfl) ?_
      refine lv_acmp_eq (rx := some (L 22 (nI k).toNatClampNeg)) (ry := none) (tgt := 68) hx hb dX10_fillPlan_36 (by decide) (fun c4 => absurd c4 (by intro z; cases z)) (fun _ => ?_)
      refine lv_aload hx hb dX10_fillPlan_39 (lv_at hl 0 rfl) ?_
      refine cr_V (As := []) (rest := []) hx hb hml hown hu hE (x_isBk l E A σ L (nI k)) kX6_isBooked u593 (cd_not hC (okN_lt (nI_okN hI (by omega)))) rfl rfl (⟨hC, hI, (nI_okN hI (by omega))⟩) ⟨Nat.le_of_ble_eq_true rfl, Nat.le_of_ble_eq_true rfl⟩ rfl hl.1 rfl (Nat.le_of_ble_eq_true rfl) ⟨Nat.le_of_ble_eq_true rfl, Nat.le_of_ble_eq_true rfl⟩ dX10_fillPlan_41 ?_
      refine onB (fun b5 => ?_) (fun b5 => ?_)
      · refine lv_if_eq (tgt := 68) hx hb dX10_fillPlan_44 (by decide) (fun c6 => absurd c6 (by decide)) (fun _ => ?_)
        refine lv_aload hx hb dX10_fillPlan_47 (lv_at hl 0 rfl) ?_
        refine rd_get (k := 6) (v := .int (gA σ 21 (nI k))) hx hb hown hu hE ok7 (cd_not hC (okN_lt (nI_okN hI (by omega)))) (by decide) u462 (fun _ h => h) rfl dX10_fillPlan_49 ?_
        refine lv_iload_n hx hb dX10_fillPlan_52 rfl (lv_at hl 2 rfl) ?_
        refine lv_icmp_ne (tgt := 68) hx hb dX10_fillPlan_53 (by decide) (fun c7 => ?_) (fun c7 => ?_)
        · refine lv_iinc (v := nI (k + 1)) (lv' := [(3, .int (nI (k + 1))), (4, .ref (L 22 (nI k).toNatClampNeg)), (0, .ref (L 0 0)), (1, .int d), (2, .null)]) hx hb dX10_fillPlan_68 hl (k := 4) rfl (nI_1 k) (by decide) rfl (fun ls hl => ?_)
          refine lv_goto (tgt := 9) hx hb dX10_fillPlan_71 (by decide) ?_
          exact ih (k + 1) _ (by omega) (by simp only [c_fiL, c_fC, hne, b5, decide_eq_false c7, Bool.not_true, Bool.not_false, Bool.and_true, Bool.true_and, Bool.and_false, Bool.false_and, Bool.or_true, Bool.true_or, Bool.or_false, Bool.false_or, Bool.and_self, Bool.or_self, eq_self, if_true, Bool.false_eq_true, if_false] at hi; exact hi) _ _ hC hPl hS _ (lv_sub hl [2, 3, 4, 0] rfl)
        · refine lv_aload_n hx hb dX10_fillPlan_56 rfl (lv_at hl 1 rfl) ?_
          refine rd_get (k := 11) (v := .ref (L 6 0)) hx hb hown hu hE ok11 (cd_reg hC) (by decide) u148 (fun _ h => h) rfl dX10_fillPlan_57 ?_
          refine lv_aload hx hb dX10_fillPlan_60 (lv_at hl 0 rfl) ?_
          refine rd_get (k := 7) (v := .int (gA σ 22 (nI k))) hx hb hown hu hE ok7 (cd_not hC (okN_lt (nI_okN hI (by omega)))) (by decide) u465 (fun _ h => h) rfl dX10_fillPlan_62 ?_
          refine ct_V (As := [.int (gA σ 22 (nI k))]) (rest := []) hx hb hml hown hu hE hZ hS (fun _ h => h) (fun q h => hA q (Nat.le_trans hS.1 h)) (x_take l E A σ L pl (gA σ 22 (nI k))) kX2_take u597 (cd_pl hC) rfl rfl (⟨hC, hI, hPl⟩) ⟨Nat.le_of_ble_eq_true rfl, Nat.le_of_ble_eq_true rfl⟩ rfl hl.1 rfl (Nat.le_of_ble_eq_true rfl) ⟨Nat.le_of_ble_eq_true rfl, Nat.le_of_ble_eq_true rfl⟩ dX10_fillPlan_65 (fun v8 H1 locs1 hR hS hz hk => ?_)
          obtain ⟨rfl, hC, hPl⟩ := hR
          refine lv_iinc (v := nI (k + 1)) (lv' := [(3, .int (nI (k + 1))), (4, .ref (L 22 (nI k).toNatClampNeg)), (0, .ref (L 0 0)), (1, .int d), (2, .null)]) hx hb dX10_fillPlan_68 hl (k := 4) rfl (nI_1 k) (by decide) rfl (fun ls hl => ?_)
          refine lv_goto (tgt := 9) hx hb dX10_fillPlan_71 (by decide) ?_
          exact ih (k + 1) _ (by omega) (by simp only [c_fiL, c_fC, hne, b5, decide_eq_true c7, Bool.not_true, Bool.not_false, Bool.and_true, Bool.true_and, Bool.and_false, Bool.false_and, Bool.or_true, Bool.true_or, Bool.or_false, Bool.false_or, Bool.and_self, Bool.or_self, eq_self, if_true, Bool.false_eq_true, if_false] at hi; exact hi) _ _ hC hPl hS _ (lv_sub hl [2, 3, 4, 0] rfl)
      · refine lv_if_eq (tgt := 68) hx hb dX10_fillPlan_44 (by decide) (fun _ => ?_) (fun c9 => absurd (by decide) c9)
        refine lv_iinc (v := nI (k + 1)) (lv' := [(3, .int (nI (k + 1))), (4, .ref (L 22 (nI k).toNatClampNeg)), (0, .ref (L 0 0)), (1, .int d), (2, .null)]) hx hb dX10_fillPlan_68 hl (k := 4) rfl (nI_1 k) (by decide) rfl (fun ls hl => ?_)
        refine lv_goto (tgt := 9) hx hb dX10_fillPlan_71 (by decide) ?_
        exact ih (k + 1) _ (by omega) (by simp only [c_fiL, c_fC, hne, b5, Bool.not_true, Bool.not_false, Bool.and_true, Bool.true_and, Bool.and_false, Bool.false_and, Bool.or_true, Bool.true_or, Bool.or_false, Bool.false_or, Bool.and_self, Bool.or_self, eq_self, if_true, Bool.false_eq_true, if_false] at hi; exact hi) _ _ hC hPl hS _ (lv_sub hl [2, 3, 4, 0] rfl)
  exact lo_ (nn σ 23) 0 pl0 (by omega) hT.symm _ _ hC hPl hS _ (lv_sub hl [1, 2, 3, 0] rfl)
set_option maxHeartbeats 1000000 in
set_option maxRecDepth 20000 in
theorem y_book (l : Launch) (E : EV) (A : Nat → Prop) (σ : St) (L : Nat → Nat → Nat) (n d x : Int32) : Ct l E yX10_book cX10_book 6 (some .int) 7 155 0 0 A [.ref (L 0 0), .int n, .int d, .int x] (fun H => Cd E A σ L H ∧ InvM σ ∧ InvL σ) (fun v H => ∃ L1, v = some (.int (k_book σ n d x).1) ∧ Cd E A (k_book σ n d x).2 L1 H ∧ L1 0 0 = L 0 0) := by
  refine Ct.of (by decide +kernel) (Nat.le_of_ble_eq_true rfl) (fun pg ev s mi bel mth cd hx hb hr hml hown hu hlocks hnm hE hP hA hZ ls hl => ?_)
  have hl : lv_has ls 6 [(0, .ref (L 0 0)), (1, .int n), (2, .int d), (3, .int x)] := hl
  have hS : va_S A s.heap s.heap [] := va_S.rf
  obtain ⟨hC, hI, hL⟩ := hP
  refine lv_aload_n hx hb dX10_book_0 rfl (lv_at hl 0 rfl) ?_
  refine lv_iload_n hx hb dX10_book_1 rfl (lv_at hl 1 rfl) ?_
  refine cr_V (As := [.int n]) (rest := []) hx hb hml hown hu hE (x_notAt l E A σ L n) kX10_noticeAt u487 (cd_reg hC) rfl rfl (⟨hC, hI⟩) ⟨Nat.le_of_ble_eq_true rfl, Nat.le_of_ble_eq_true rfl⟩ rfl hl.1 rfl (Nat.le_of_ble_eq_true rfl) ⟨Nat.le_of_ble_eq_true rfl, Nat.le_of_ble_eq_true rfl⟩ dX10_book_2 ?_
  refine onO (fun b1 => ?_) (fun b1 => ?_)
  · refine lv_astore (lv' := [(4, .ref (L 22 n.toNatClampNeg)), (0, .ref (L 0 0)), (1, .int n), (2, .int d), (3, .int x)]) hx hb dX10_book_5 hl (by decide) rfl (fun ls hl => ?_)
    refine lv_aload hx hb dX10_book_7 (lv_at hl 0 rfl) ?_
    refine lv_ifnull hx hb dX10_book_9 ?_
    refine lv_aload_n hx hb dX10_book_12 rfl (lv_at hl 1 rfl) ?_
    refine lv_iload_n hx hb dX10_book_13 rfl (lv_at hl 3 rfl) ?_
    refine cr_V (As := [.int d]) (rest := []) hx hb hml hown hu hE (x_isDayTC l E A σ L d) kX10_isDayToCome u557 (cd_reg hC) rfl rfl (⟨hC, hI⟩) ⟨Nat.le_of_ble_eq_true rfl, Nat.le_of_ble_eq_true rfl⟩ rfl hl.1 rfl (Nat.le_of_ble_eq_true rfl) ⟨Nat.le_of_ble_eq_true rfl, Nat.le_of_ble_eq_true rfl⟩ dX10_book_14 ?_
    refine onB (fun b2 => ?_) (fun b2 => ?_)
    · refine lv_if_eq (tgt := 28) hx hb dX10_book_17 (by decide) (fun c3 => absurd c3 (by decide)) (fun _ => ?_)
      refine lv_aload_n hx hb dX10_book_20 rfl (lv_at hl 1 rfl) ?_
      refine lv_iload_n hx hb dX10_book_21 rfl (lv_at hl 4 rfl) ?_
      refine cr_V (As := [.int x]) (rest := []) hx hb hml hown hu hE (x_isSlot l E A σ L x) kX10_isSlot u561 (cd_reg hC) rfl rfl (⟨hC, hI⟩) ⟨Nat.le_of_ble_eq_true rfl, Nat.le_of_ble_eq_true rfl⟩ rfl hl.1 rfl (Nat.le_of_ble_eq_true rfl) ⟨Nat.le_of_ble_eq_true rfl, Nat.le_of_ble_eq_true rfl⟩ dX10_book_22 ?_
      refine onB (fun b4 => ?_) (fun b4 => ?_)
      · refine lv_if_ne (tgt := 30) hx hb dX10_book_25 (by decide) (fun _ => ?_) (fun c5 => absurd c5 (by decide))
        refine lv_aload_n hx hb dX10_book_30 rfl (lv_at hl 1 rfl) ?_
        refine lv_aload hx hb dX10_book_31 (lv_at hl 0 rfl) ?_
        refine lv_iload_n hx hb dX10_book_33 rfl (lv_at hl 3 rfl) ?_
        refine cr_V (As := [.ref (L 22 n.toNatClampNeg), .int d]) (rest := []) hx hb hml hown hu hE (x_barD l E A σ L n d) kX10_barToDay u574 (cd_reg hC) rfl rfl (⟨hC, hI, (isN_ok hI b1), hL, okD_now hI b2⟩) ⟨Nat.le_of_ble_eq_true rfl, Nat.le_of_ble_eq_true rfl⟩ rfl hl.1 rfl (Nat.le_of_ble_eq_true rfl) ⟨Nat.le_of_ble_eq_true rfl, Nat.le_of_ble_eq_true rfl⟩ dX10_book_34 ?_
        refine lv_istore (lv' := [(5, .int (c_barD σ n d)), (4, .ref (L 22 n.toNatClampNeg)), (0, .ref (L 0 0)), (1, .int n), (2, .int d), (3, .int x)]) hx hb dX10_book_37 hl (by decide) rfl (fun ls hl => ?_)
        refine lv_iload hx hb dX10_book_39 (lv_at hl 0 rfl) ?_
        refine lv_if_ne (tgt := 60) hx hb dX10_book_41 (by decide) (fun c6 => ?_) (fun c6 => ?_)
        · refine lv_iload hx hb dX10_book_60 (lv_at hl 0 rfl) ?_
          refine lv_if_ne (tgt := 72) hx hb dX10_book_62 (by decide) (fun c7 => ?_) (fun c7 => absurd c7 c6)
          refine lv_iload hx hb dX10_book_72 (lv_at hl 0 rfl) ?_
          exact ct_ri hx hb hr hlocks hS (by (have hB : (c_boBad σ n d x) = false := (by simp only [c_boBad, b1, b2, b4, decide_eq_false c6, Bool.not_true, Bool.not_false, Bool.and_true, Bool.true_and, Bool.and_false, Bool.false_and, Bool.or_true, Bool.true_or, Bool.or_false, Bool.false_or, Bool.and_self, Bool.or_self, eq_self, if_true, Bool.false_eq_true, if_false])); (have hV : k_bookB σ n d x = c_barD σ n d := (by simp only [k_bookB, b1, b2, b4, decide_eq_false c6, Bool.not_true, Bool.not_false, Bool.and_true, Bool.true_and, Bool.and_false, Bool.false_and, Bool.or_true, Bool.true_or, Bool.or_false, Bool.false_or, Bool.and_self, Bool.or_self, eq_self, if_true, Bool.false_eq_true, if_false])); unfold k_book; rw [hB, hV, decide_eq_false c6]; exact ⟨L, rfl, hC, rfl⟩) (Nat.le_of_ble_eq_true rfl) (Nat.le_of_ble_eq_true rfl) dX10_book_74
        · refine lv_aload_n hx hb dX10_book_44 rfl (lv_at hl 2 rfl) ?_
          refine lv_iload_n hx hb dX10_book_45 rfl (lv_at hl 4 rfl) ?_
          refine lv_aload hx hb dX10_book_46 (lv_at hl 1 rfl) ?_
          refine ct_V (As := [.int d, .ref (L 22 n.toNatClampNeg)]) (rest := []) hx hb hml hown hu hE hZ hS (fun _ h => h) (fun q h => hA q (Nat.le_trans hS.1 h)) (x_fill l E A σ L d n) kX10_fillPlan u582 (cd_reg hC) rfl rfl (⟨hC, hI, (isN_ok hI b1)⟩) ⟨Nat.le_of_ble_eq_true rfl, Nat.le_of_ble_eq_true rfl⟩ rfl hl.1 rfl (Nat.le_of_ble_eq_true rfl) ⟨Nat.le_of_ble_eq_true rfl, Nat.le_of_ble_eq_true rfl⟩ dX10_book_48 (fun v8 H1 locs1 hR hS hz hk => ?_)
          obtain ⟨rfl, hC, hPl⟩ := hR
          refine lv_aload_n hx hb dX10_book_51 rfl (lv_at hl 2 rfl) ?_
          refine lv_aload hx hb dX10_book_52 (lv_at hl 1 rfl) ?_
          refine lv_iload_n hx hb dX10_book_54 rfl (lv_at hl 5 rfl) ?_
          refine cr_V (As := [.ref (L 22 n.toNatClampNeg), .int x]) (rest := []) hx hb hml hown hu hE (x_barS l E A σ L (c_fill σ d n).1 (c_fill σ d n).2 n x) kX10_barToSlot u608 (cd_reg hC) rfl rfl (⟨hC, hI, hPl, (isN_ok hI b1)⟩) ⟨Nat.le_of_ble_eq_true rfl, Nat.le_of_ble_eq_true rfl⟩ rfl hl.1 rfl (Nat.le_of_ble_eq_true rfl) ⟨Nat.le_of_ble_eq_true rfl, Nat.le_of_ble_eq_true rfl⟩ dX10_book_55 ?_
          refine lv_istore (lv' := [(5, .int (c_barS σ (c_fill σ d n).1 (c_fill σ d n).2 n x)), (4, .ref (L 22 n.toNatClampNeg)), (0, .ref (L 0 0)), (1, .int n), (2, .int d), (3, .int x)]) hx hb dX10_book_58 hl (by decide) rfl (fun ls hl => ?_)
          refine lv_iload hx hb dX10_book_60 (lv_at hl 0 rfl) ?_
          refine lv_if_ne (tgt := 72) hx hb dX10_book_62 (by decide) (fun c9 => ?_) (fun c9 => ?_)
          · refine lv_iload hx hb dX10_book_72 (lv_at hl 0 rfl) ?_
            exact ct_ri hx hb hr hlocks hS (by (have hB : (c_boBad σ n d x) = false := (by simp only [c_boBad, b1, b2, b4, decide_eq_true c6, decide_eq_false c9, Bool.not_true, Bool.not_false, Bool.and_true, Bool.true_and, Bool.and_false, Bool.false_and, Bool.or_true, Bool.true_or, Bool.or_false, Bool.false_or, Bool.and_self, Bool.or_self, eq_self, if_true, Bool.false_eq_true, if_false])); (have hV : k_bookB σ n d x = c_barS σ (c_fill σ d n).1 (c_fill σ d n).2 n x := (by simp only [k_bookB, b1, b2, b4, decide_eq_true c6, decide_eq_false c9, Bool.not_true, Bool.not_false, Bool.and_true, Bool.true_and, Bool.and_false, Bool.false_and, Bool.or_true, Bool.true_or, Bool.or_false, Bool.false_or, Bool.and_self, Bool.or_self, eq_self, if_true, Bool.false_eq_true, if_false])); unfold k_book; rw [hB, hV, decide_eq_false c9]; exact ⟨L, rfl, hC, rfl⟩) (Nat.le_of_ble_eq_true rfl) (Nat.le_of_ble_eq_true rfl) dX10_book_74
          · refine lv_aload hx hb dX10_book_65 (lv_at hl 1 rfl) ?_
            refine lv_iload_n hx hb dX10_book_67 rfl (lv_at hl 4 rfl) ?_
            refine lv_iload_n hx hb dX10_book_68 rfl (lv_at hl 5 rfl) ?_
            refine ct_V (As := [.int d, .int x]) (rest := []) hx hb hml hown hu hE hZ hS (fun _ h => h) (fun q h => hA q (Nat.le_trans hS.1 h)) (x_setB l E A H1 σ L n d x) kX6_setBooking u491 (cd_not hC (okN_lt (isN_ok hI b1))) rfl rfl (⟨rfl, hC, hI, (show okN σ n from (isN_ok hI b1))⟩) ⟨Nat.le_of_ble_eq_true rfl, Nat.le_of_ble_eq_true rfl⟩ rfl hl.1 rfl (Nat.le_of_ble_eq_true rfl) ⟨Nat.le_of_ble_eq_true rfl, Nat.le_of_ble_eq_true rfl⟩ dX10_book_69 (fun v10 H1 locs1 hR hS hz hk => ?_)
            obtain ⟨rfl, hC, oq⟩ := hR
            refine lv_iload hx hb dX10_book_72 (lv_at hl 0 rfl) ?_
            exact ct_ri hx hb hr hlocks hS (by (have hB : (c_boBad σ n d x) = false := (by simp only [c_boBad, b1, b2, b4, decide_eq_true c6, decide_eq_true c9, Bool.not_true, Bool.not_false, Bool.and_true, Bool.true_and, Bool.and_false, Bool.false_and, Bool.or_true, Bool.true_or, Bool.or_false, Bool.false_or, Bool.and_self, Bool.or_self, eq_self, if_true, Bool.false_eq_true, if_false])); (have hV : k_bookB σ n d x = c_barS σ (c_fill σ d n).1 (c_fill σ d n).2 n x := (by simp only [k_bookB, b1, b2, b4, decide_eq_true c6, decide_eq_true c9, Bool.not_true, Bool.not_false, Bool.and_true, Bool.true_and, Bool.and_false, Bool.false_and, Bool.or_true, Bool.true_or, Bool.or_false, Bool.false_or, Bool.and_self, Bool.or_self, eq_self, if_true, Bool.false_eq_true, if_false])); unfold k_book; rw [hB, hV, decide_eq_true c9]; exact ⟨L, rfl, hC, rfl⟩) (Nat.le_of_ble_eq_true rfl) (Nat.le_of_ble_eq_true rfl) dX10_book_74
      · refine lv_if_ne (tgt := 30) hx hb dX10_book_25 (by decide) (fun c11 => absurd c11 (by decide)) (fun _ => ?_)
        refine lv_iconst (v := (-1)) hx hb dX10_book_28 (by decide) ?_
        exact ct_ri hx hb hr hlocks hS (by (have hB : (c_boBad σ n d x) = true := (by simp only [c_boBad, b1, b2, b4, Bool.not_true, Bool.not_false, Bool.and_true, Bool.true_and, Bool.and_false, Bool.false_and, Bool.or_true, Bool.true_or, Bool.or_false, Bool.false_or, Bool.and_self, Bool.or_self, eq_self, if_true, Bool.false_eq_true, if_false])); unfold k_book; rw [hB]; exact ⟨L, rfl, hC, rfl⟩) (Nat.le_of_ble_eq_true rfl) (Nat.le_of_ble_eq_true rfl) dX10_book_29
    · refine lv_if_eq (tgt := 28) hx hb dX10_book_17 (by decide) (fun _ => ?_) (fun c12 => absurd (by decide) c12)
      refine lv_iconst (v := (-1)) hx hb dX10_book_28 (by decide) ?_
      exact ct_ri hx hb hr hlocks hS (by (have hB : (c_boBad σ n d x) = true := (by simp only [c_boBad, b1, b2, Bool.not_true, Bool.not_false, Bool.and_true, Bool.true_and, Bool.and_false, Bool.false_and, Bool.or_true, Bool.true_or, Bool.or_false, Bool.false_or, Bool.and_self, Bool.or_self, eq_self, if_true, Bool.false_eq_true, if_false])); unfold k_book; rw [hB]; exact ⟨L, rfl, hC, rfl⟩) (Nat.le_of_ble_eq_true rfl) (Nat.le_of_ble_eq_true rfl) dX10_book_29
  · refine lv_astoreN (lv' := [(4, .null), (0, .ref (L 0 0)), (1, .int n), (2, .int d), (3, .int x)]) hx hb dX10_book_5 hl (by decide) rfl (fun ls hl => ?_)
    refine lv_aloadN hx hb dX10_book_7 (lv_at hl 0 rfl) ?_
    refine lv_ifnullN (tgt := 28) hx hb dX10_book_9 (by decide) ?_
    refine lv_iconst (v := (-1)) hx hb dX10_book_28 (by decide) ?_
    exact ct_ri hx hb hr hlocks hS (by (have hB : (c_boBad σ n d x) = true := (by simp only [c_boBad, b1, Bool.not_true, Bool.not_false, Bool.and_true, Bool.true_and, Bool.and_false, Bool.false_and, Bool.or_true, Bool.true_or, Bool.or_false, Bool.false_or, Bool.and_self, Bool.or_self, eq_self, if_true, Bool.false_eq_true, if_false])); unfold k_book; rw [hB]; exact ⟨L, rfl, hC, rfl⟩) (Nat.le_of_ble_eq_true rfl) (Nat.le_of_ble_eq_true rfl) dX10_book_29
set_option maxHeartbeats 1000000 in
set_option maxRecDepth 20000 in
theorem x_bbo (l : Launch) (E : EV) (A : Nat → Prop) (σ : St) (L : Nat → Nat → Nat) (pl : Pl) (n d : Int32) : Ct l E yX10_bookByOrder cX10_bookByOrder 4 (some .boolean) 7 155 0 0 A [.ref (L 0 0), .ref (L 22 n.toNatClampNeg), .int d] (fun H => Cd E A σ L H ∧ InvM σ ∧ okN σ n ∧ InvL σ ∧ InvP σ ∧ okD d ∧ plK E L pl.1 pl.2 H) (fun v H => v = some (.int (bI (c_bbo σ pl n d).isSome)) ∧ Cd E A (c_bboS σ pl n d) L H ∧ plK E L (c_bboP σ pl n d).1 (c_bboP σ pl n d).2 H) := by
  refine Ct.of (by decide +kernel) (Nat.le_of_ble_eq_true rfl) (fun pg ev s mi bel mth cd hx hb hr hml hown hu hlocks hnm hE hP hA hZ ls hl => ?_)
  have hl : lv_has ls 4 [(0, .ref (L 0 0)), (1, .ref (L 22 n.toNatClampNeg)), (2, .int d)] := hl
  have hS : va_S A s.heap s.heap [] := va_S.rf
  obtain ⟨hC, hI, hX, hL, hK, hD, hPl⟩ := hP
  have n7 : L 7 0 ≠ L 22 n.toNatClampNeg := fun z => absurd (cd_inj hC (cv_f (by omega)) (cv_22 (okN_lt hX)) z).1 (by decide)
  have n8 : L 8 0 ≠ L 22 n.toNatClampNeg := fun z => absurd (cd_inj hC (cv_f (by omega)) (cv_22 (okN_lt hX)) z).1 (by decide)
  refine lv_aload_n hx hb dX10_bookByOrder_0 rfl (lv_at hl 1 rfl) ?_
  refine cr_V (As := []) (rest := []) hx hb hml hown hu hE (x_isBk l E A σ L n) kX6_isBooked u593 (cd_not hC (okN_lt hX)) rfl rfl (⟨hC, hI, hX⟩) ⟨Nat.le_of_ble_eq_true rfl, Nat.le_of_ble_eq_true rfl⟩ rfl hl.1 rfl (Nat.le_of_ble_eq_true rfl) ⟨Nat.le_of_ble_eq_true rfl, Nat.le_of_ble_eq_true rfl⟩ dX10_bookByOrder_1 ?_
  refine onB (fun b1 => ?_) (fun b1 => ?_)
  · refine lv_if_ne (tgt := 16) hx hb dX10_bookByOrder_4 (by decide) (fun _ => ?_) (fun c2 => absurd c2 (by decide))
    refine lv_iconst (v := 0) hx hb dX10_bookByOrder_16 (by decide) ?_
    exact ct_rz hx hb hr hlocks hS (by (have hB : c_bbo σ pl n d = none := (by simp only [c_bbo, b1, Bool.not_true, Bool.not_false, Bool.and_true, Bool.true_and, Bool.and_false, Bool.false_and, Bool.or_true, Bool.true_or, Bool.or_false, Bool.false_or, Bool.and_self, Bool.or_self, eq_self, if_true, Bool.false_eq_true, if_false])); unfold c_bboS c_bboP; rw [hB]; exact ⟨rfl, hC, hPl⟩) (rfl) (Nat.le_of_ble_eq_true rfl) (Nat.le_of_ble_eq_true rfl) dX10_bookByOrder_17
  · refine lv_if_ne (tgt := 16) hx hb dX10_bookByOrder_4 (by decide) (fun c3 => absurd c3 (by decide)) (fun _ => ?_)
    refine lv_aload_n hx hb dX10_bookByOrder_7 rfl (lv_at hl 0 rfl) ?_
    refine lv_aload_n hx hb dX10_bookByOrder_8 rfl (lv_at hl 1 rfl) ?_
    refine lv_iload_n hx hb dX10_bookByOrder_9 rfl (lv_at hl 2 rfl) ?_
    refine cr_V (As := [.ref (L 22 n.toNatClampNeg), .int d]) (rest := []) hx hb hml hown hu hE (x_barD l E A σ L n d) kX10_barToDay u574 (cd_reg hC) rfl rfl (⟨hC, hI, hX, hL, hD⟩) ⟨Nat.le_of_ble_eq_true rfl, Nat.le_of_ble_eq_true rfl⟩ rfl hl.1 rfl (Nat.le_of_ble_eq_true rfl) ⟨Nat.le_of_ble_eq_true rfl, Nat.le_of_ble_eq_true rfl⟩ dX10_bookByOrder_10 ?_
    refine lv_if_eq (tgt := 18) hx hb dX10_bookByOrder_13 (by decide) (fun c4 => ?_) (fun c4 => ?_)
    · refine lv_aload_n hx hb dX10_bookByOrder_18 rfl (lv_at hl 0 rfl) ?_
      refine lv_aload_n hx hb dX10_bookByOrder_19 rfl (lv_at hl 1 rfl) ?_
      refine rd_get (k := 1) (v := .ref (L 21 (gA σ 17 n).toNatClampNeg)) hx hb hown hu hE ok7 (cd_not hC (okN_lt hX)) (by decide) u451 (fun _ h => h) rfl dX10_bookByOrder_20 ?_
      refine lv_aload_n hx hb dX10_bookByOrder_23 rfl (lv_at hl 1 rfl) ?_
      refine rd_get (k := 2) (v := .ref (L 21 (gA σ 18 n).toNatClampNeg)) hx hb hown hu hE ok7 (cd_not hC (okN_lt hX)) (by decide) u454 (fun _ h => h) rfl dX10_bookByOrder_24 ?_
      refine lv_iload_n hx hb dX10_bookByOrder_27 rfl (lv_at hl 2 rfl) ?_
      refine cr_V (As := [.ref (L 21 (gA σ 17 n).toNatClampNeg), .ref (L 21 (gA σ 18 n).toNatClampNeg), .int d]) (rest := []) hx hb hml hown hu hE (x_bar l E A σ L (gA σ 17 n) (gA σ 18 n) d) kX10_barToCouple u403 (cd_reg hC) rfl rfl (⟨hC, hI, (one_ok hI hX), (oth_ok hI hX), hL, hK⟩) ⟨Nat.le_of_ble_eq_true rfl, Nat.le_of_ble_eq_true rfl⟩ rfl hl.1 rfl (Nat.le_of_ble_eq_true rfl) ⟨Nat.le_of_ble_eq_true rfl, Nat.le_of_ble_eq_true rfl⟩ dX10_bookByOrder_28 ?_
      refine lv_if_eq (tgt := 36) hx hb dX10_bookByOrder_31 (by decide) (fun c5 => ?_) (fun c5 => ?_)
      · refine lv_aload_n hx hb dX10_bookByOrder_36 rfl (lv_at hl 0 rfl) ?_
        refine lv_aload_n hx hb dX10_bookByOrder_37 rfl (lv_at hl 1 rfl) ?_
        refine cr_V (As := [.ref (L 22 n.toNatClampNeg)]) (rest := []) hx hb hml hown hu hE (x_free l E A σ L pl.1 pl.2 n) kX10_firstFreeSlot u636 (cd_reg hC) rfl rfl (⟨hC, hI, hPl, hX⟩) ⟨Nat.le_of_ble_eq_true rfl, Nat.le_of_ble_eq_true rfl⟩ rfl hl.1 rfl (Nat.le_of_ble_eq_true rfl) ⟨Nat.le_of_ble_eq_true rfl, Nat.le_of_ble_eq_true rfl⟩ dX10_bookByOrder_38 ?_
        refine lv_istore_n (lv' := [(3, .int (oI (c_free σ pl.1 pl.2 n))), (0, .ref (L 0 0)), (1, .ref (L 22 n.toNatClampNeg)), (2, .int d)]) hx hb dX10_bookByOrder_41 rfl hl (by decide) rfl (fun ls hl => ?_)
        refine lv_iload_n hx hb dX10_bookByOrder_42 rfl (lv_at hl 0 rfl) ?_
        refine lv_iconst (v := (-1)) hx hb dX10_bookByOrder_43 (by decide) ?_
        refine lv_icmp_ne (tgt := 49) hx hb dX10_bookByOrder_44 (by decide) (fun c6 => ?_) (fun c6 => ?_)
        · refine lv_aload_n hx hb dX10_bookByOrder_49 rfl (lv_at hl 2 rfl) ?_
          refine lv_iload_n hx hb dX10_bookByOrder_50 rfl (lv_at hl 3 rfl) ?_
          refine lv_iload_n hx hb dX10_bookByOrder_51 rfl (lv_at hl 0 rfl) ?_
          refine ct_V (As := [.int d, .int (oI (c_free σ pl.1 pl.2 n))]) (rest := []) hx hb hml hown hu hE hZ hS (fun _ h => h) (fun q h => hA q (Nat.le_trans hS.1 h)) (x_setB l E A s.heap σ L n d (oI (c_free σ pl.1 pl.2 n))) kX6_setBooking u491 (cd_not hC (okN_lt hX)) rfl rfl (⟨rfl, hC, hI, (show okN σ n from hX)⟩) ⟨Nat.le_of_ble_eq_true rfl, Nat.le_of_ble_eq_true rfl⟩ rfl hl.1 rfl (Nat.le_of_ble_eq_true rfl) ⟨Nat.le_of_ble_eq_true rfl, Nat.le_of_ble_eq_true rfl⟩ dX10_bookByOrder_52 (fun v7 H1 locs1 hR hS hz hk => ?_)
          obtain ⟨rfl, hC, oq⟩ := hR
          have hI2 := invM_bo (n := n) (day := d) (x := (oI (c_free σ pl.1 pl.2 n))) hI
          have hPl : plK E L pl.1 pl.2 H1 := ⟨hPl.1.kept (oq _ n7), hPl.2.kept (oq _ n8)⟩
          refine lv_aload_n hx hb dX10_bookByOrder_55 rfl (lv_at hl 1 rfl) ?_
          refine rd_get (k := 11) (v := .ref (L 6 0)) hx hb hown hu hE ok11 (cd_reg hC) (by decide) u148 (fun _ h => h) rfl dX10_bookByOrder_56 ?_
          refine lv_iload_n hx hb dX10_bookByOrder_59 rfl (lv_at hl 0 rfl) ?_
          refine ct_V (As := [.int (oI (c_free σ pl.1 pl.2 n))]) (rest := []) hx hb hml hown hu hE hZ hS (fun _ h => h) (fun q h => hA q (Nat.le_trans hS.1 h)) (x_take l E A (m_boS σ n d (oI (c_free σ pl.1 pl.2 n))) L pl (oI (c_free σ pl.1 pl.2 n))) kX2_take u597 (cd_pl hC) rfl rfl (⟨hC, hI2, hPl⟩) ⟨Nat.le_of_ble_eq_true rfl, Nat.le_of_ble_eq_true rfl⟩ rfl hl.1 rfl (Nat.le_of_ble_eq_true rfl) ⟨Nat.le_of_ble_eq_true rfl, Nat.le_of_ble_eq_true rfl⟩ dX10_bookByOrder_60 (fun v8 H1 locs1 hR hS hz hk => ?_)
          obtain ⟨rfl, hC, hPl⟩ := hR
          refine lv_iconst (v := 1) hx hb dX10_bookByOrder_63 (by decide) ?_
          exact ct_rz hx hb hr hlocks hS (by (have hB : c_bbo σ pl n d = some (oI (c_free σ pl.1 pl.2 n)) := (by simp only [c_bbo, b1, decide_eq_true c4, decide_eq_true c5, decide_eq_false c6, Bool.not_true, Bool.not_false, Bool.and_true, Bool.true_and, Bool.and_false, Bool.false_and, Bool.or_true, Bool.true_or, Bool.or_false, Bool.false_or, Bool.and_self, Bool.or_self, eq_self, if_true, Bool.false_eq_true, if_false])); unfold c_bboS c_bboP; rw [hB]; exact ⟨rfl, hC, hPl⟩) (rfl) (Nat.le_of_ble_eq_true rfl) (Nat.le_of_ble_eq_true rfl) dX10_bookByOrder_64
        · refine lv_iconst (v := 0) hx hb dX10_bookByOrder_47 (by decide) ?_
          exact ct_rz hx hb hr hlocks hS (by (have hB : c_bbo σ pl n d = none := (by simp only [c_bbo, b1, decide_eq_true c4, decide_eq_true c5, decide_eq_true c6, Bool.not_true, Bool.not_false, Bool.and_true, Bool.true_and, Bool.and_false, Bool.false_and, Bool.or_true, Bool.true_or, Bool.or_false, Bool.false_or, Bool.and_self, Bool.or_self, eq_self, if_true, Bool.false_eq_true, if_false])); unfold c_bboS c_bboP; rw [hB]; exact ⟨rfl, hC, hPl⟩) (rfl) (Nat.le_of_ble_eq_true rfl) (Nat.le_of_ble_eq_true rfl) dX10_bookByOrder_48
      · refine lv_iconst (v := 0) hx hb dX10_bookByOrder_34 (by decide) ?_
        exact ct_rz hx hb hr hlocks hS (by (have hB : c_bbo σ pl n d = none := (by simp only [c_bbo, b1, decide_eq_true c4, decide_eq_false c5, Bool.not_true, Bool.not_false, Bool.and_true, Bool.true_and, Bool.and_false, Bool.false_and, Bool.or_true, Bool.true_or, Bool.or_false, Bool.false_or, Bool.and_self, Bool.or_self, eq_self, if_true, Bool.false_eq_true, if_false])); unfold c_bboS c_bboP; rw [hB]; exact ⟨rfl, hC, hPl⟩) (rfl) (Nat.le_of_ble_eq_true rfl) (Nat.le_of_ble_eq_true rfl) dX10_bookByOrder_35
    · refine lv_iconst (v := 0) hx hb dX10_bookByOrder_16 (by decide) ?_
      exact ct_rz hx hb hr hlocks hS (by (have hB : c_bbo σ pl n d = none := (by simp only [c_bbo, b1, decide_eq_false c4, Bool.not_true, Bool.not_false, Bool.and_true, Bool.true_and, Bool.and_false, Bool.false_and, Bool.or_true, Bool.true_or, Bool.or_false, Bool.false_or, Bool.and_self, Bool.or_self, eq_self, if_true, Bool.false_eq_true, if_false])); unfold c_bboS c_bboP; rw [hB]; exact ⟨rfl, hC, hPl⟩) (rfl) (Nat.le_of_ble_eq_true rfl) (Nat.le_of_ble_eq_true rfl) dX10_bookByOrder_17
set_option maxHeartbeats 1000000 in
set_option maxRecDepth 20000 in
theorem y_order (l : Launch) (E : EV) (A : Nat → Prop) (σ0 : St) (L : Nat → Nat → Nat) (d : Int32) : Ct l E yX10_order cX10_order 4 (some .int) 8 178 0 0 A [.ref (L 0 0), .int d] (fun H => Cd E A σ0 L H ∧ InvM σ0 ∧ InvL σ0 ∧ InvP σ0) (fun v H => ∃ L1, v = some (.int (k_order σ0 d).1) ∧ Cd E A (k_order σ0 d).2 L1 H ∧ L1 0 0 = L 0 0) := by
  refine Ct.of (by decide +kernel) (Nat.le_of_ble_eq_true rfl) (fun pg ev s mi bel mth cd hx hb hr hml hown hu hlocks hnm hE hP hA hZ ls hl => ?_)
  have hl : lv_has ls 4 [(0, .ref (L 0 0)), (1, .int d)] := hl
  have hS : va_S A s.heap s.heap [] := va_S.rf
  obtain ⟨σ, hσ⟩ : ∃ z : St, z = σ0 := ⟨_, rfl⟩
  rw [← hσ] at hP
  obtain ⟨hC, hI, hL, hK⟩ := hP
  refine lv_aload_n hx hb dX10_order_0 rfl (lv_at hl 0 rfl) ?_
  refine lv_iload_n hx hb dX10_order_1 rfl (lv_at hl 1 rfl) ?_
  refine cr_V (As := [.int d]) (rest := []) hx hb hml hown hu hE (x_isDayTC l E A σ L d) kX10_isDayToCome u557 (cd_reg hC) rfl rfl (⟨hC, hI⟩) ⟨Nat.le_of_ble_eq_true rfl, Nat.le_of_ble_eq_true rfl⟩ rfl hl.1 rfl (Nat.le_of_ble_eq_true rfl) ⟨Nat.le_of_ble_eq_true rfl, Nat.le_of_ble_eq_true rfl⟩ dX10_order_2 ?_
  refine onB (fun b1 => ?_) (fun b1 => ?_)
  · refine lv_if_ne (tgt := 10) hx hb dX10_order_5 (by decide) (fun _ => ?_) (fun c2 => absurd c2 (by decide))
    have hD := okD_now hI b1
    refine lv_aload_n hx hb dX10_order_10 rfl (lv_at hl 0 rfl) ?_
    refine lv_iload_n hx hb dX10_order_11 rfl (lv_at hl 1 rfl) ?_
    refine lv_null hx hb dX10_order_12 ?_
    refine ct_V (As := [.int d, .null]) (rest := []) hx hb hml hown hu hE hZ hS (fun _ h => h) (fun q h => hA q (Nat.le_trans hS.1 h)) (x_fill0 l E A σ L d) kX10_fillPlan u582 (cd_reg hC) rfl rfl (⟨hC, hI⟩) ⟨Nat.le_of_ble_eq_true rfl, Nat.le_of_ble_eq_true rfl⟩ rfl hl.1 rfl (Nat.le_of_ble_eq_true rfl) ⟨Nat.le_of_ble_eq_true rfl, Nat.le_of_ble_eq_true rfl⟩ dX10_order_13 (fun v3 H1 locs1 hR hS hz hk => ?_)
    obtain ⟨rfl, hC, hPl⟩ := hR
    refine lv_iconst (v := 0) hx hb dX10_order_16 (by decide) ?_
    refine lv_istore_n (lv' := [(2, .int 0), (0, .ref (L 0 0)), (1, .int d)]) hx hb dX10_order_17 rfl hl (by decide) rfl (fun ls hl => ?_)
    refine lv_iconst (v := 0) hx hb dX10_order_18 (by decide) ?_
    refine lv_istore_n (lv' := [(3, .int 0), (2, .int 0), (0, .ref (L 0 0)), (1, .int d)]) hx hb dX10_order_19 rfl hl (by decide) rfl (fun ls hl => ?_)
    obtain ⟨T, hT⟩ : ∃ z, z = k_orL d (nn σ 23) 0 0 σ (c_fill σ d (-1)) := ⟨_, rfl⟩
    have lo_ : ∀ (f k : Nat) (r : Int32) (σ : St) (pl : Pl), (k + f = nn σ 23) → (k_orL d f k r σ pl = T) → (InvM σ) → (InvL σ) → (InvP σ) → ∀ (H1 : Heap) (locs1 : List Loc), Cd E A σ L H1 → plK E L pl.1 pl.2 H1 → va_S A s.heap H1 locs1 → ∀ (ls : Array Slot), lv_has ls 4 [(0, .ref (L 0 0)), (1, .int d), (2, .int r), (3, .int (nI k))] → W pg l ev { frames := 8, cells := 0, slots := 0, locals := 178 } s mi [.ref (L 0 0), .int d].toArray bel mth cd H1 locs1 0 0 (QT bel s [.ref (L 0 0), .int d].toArray 0 0 A (fun v H => ∃ L1, v = some (.int (k_order σ0 d).1) ∧ Cd E A (k_order σ0 d).2 L1 H ∧ L1 0 0 = L 0 0)) (F0 mi 20 ls []) := by
      intro f
      induction f with
      | zero =>
        intro k r σ pl hk hi hI hL hK H1 locs1 hC hPl hS ls hl
        have hn := cnt_le (N := 60) hI.1.2.2.2.2.1
        have hc := cnt_nI hI.1.2.2.2.2.1
        refine lv_iload_n hx hb dX10_order_20 rfl (lv_at hl 3 rfl) ?_
        refine lv_aload_n hx hb dX10_order_21 rfl (lv_at hl 0 rfl) ?_
        refine rd_get (k := 7) (v := .ref (L 9 2)) hx hb hown hu hE ok11 (cd_reg hC) (by decide) u144 (fun _ h => h) rfl dX10_order_22 ?_
        refine cr_V (As := []) (rest := [.int (nI k)]) hx hb hml hown hu hE (c_LS2 l E A σ L) kJx4a65c_size_8abf5 u266 ((cd_lex hC (j := 2) (by omega)).choose_spec) rfl rfl (⟨hC, hI⟩) ⟨Nat.le_of_ble_eq_true rfl, Nat.le_of_ble_eq_true rfl⟩ rfl hl.1 rfl (Nat.le_of_ble_eq_true rfl) ⟨Nat.le_of_ble_eq_true rfl, Nat.le_of_ble_eq_true rfl⟩ dX10_order_25 ?_
        refine lv_icmp_ge (tgt := 59) hx hb dX10_order_28 (by decide) (fun c4 => ?_) (fun c4 => absurd (by rw [hc]; exact nI_le (by omega) (by omega)) c4)
        refine lv_iload_n hx hb dX10_order_59 rfl (lv_at hl 2 rfl) ?_
        exact ct_ri hx hb hr hlocks hS (by simp only [k_orL] at hi; rw [← hσ]; unfold k_order; rw [b1]; (have hf := hT.symm.trans hi.symm); simp only [if_true]; rw [hf]; exact ⟨L, rfl, hC, rfl⟩) (Nat.le_of_ble_eq_true rfl) (Nat.le_of_ble_eq_true rfl) dX10_order_60
      | succ f ih =>
        intro k r σ pl hk hi hI hL hK H1 locs1 hC hPl hS ls hl
        have hn := cnt_le (N := 60) hI.1.2.2.2.2.1
        have hc := cnt_nI hI.1.2.2.2.2.1
        refine lv_iload_n hx hb dX10_order_20 rfl (lv_at hl 3 rfl) ?_
        refine lv_aload_n hx hb dX10_order_21 rfl (lv_at hl 0 rfl) ?_
        refine rd_get (k := 7) (v := .ref (L 9 2)) hx hb hown hu hE ok11 (cd_reg hC) (by decide) u144 (fun _ h => h) rfl dX10_order_22 ?_
        refine cr_V (As := []) (rest := [.int (nI k)]) hx hb hml hown hu hE (c_LS2 l E A σ L) kJx4a65c_size_8abf5 u266 ((cd_lex hC (j := 2) (by omega)).choose_spec) rfl rfl (⟨hC, hI⟩) ⟨Nat.le_of_ble_eq_true rfl, Nat.le_of_ble_eq_true rfl⟩ rfl hl.1 rfl (Nat.le_of_ble_eq_true rfl) ⟨Nat.le_of_ble_eq_true rfl, Nat.le_of_ble_eq_true rfl⟩ dX10_order_25 ?_
        refine lv_icmp_ge (tgt := 59) hx hb dX10_order_28 (by decide) (fun c5 => absurd c5 (by rw [hc]; exact nI_ge (by omega) (by omega))) (fun c5 => ?_)
        refine lv_aload_n hx hb dX10_order_31 rfl (lv_at hl 0 rfl) ?_
        refine lv_aload_n hx hb dX10_order_32 rfl (lv_at hl 0 rfl) ?_
        refine rd_get (k := 7) (v := .ref (L 9 2)) hx hb hown hu hE ok11 (cd_reg hC) (by decide) u144 (fun _ h => h) rfl dX10_order_33 ?_
        refine lv_iload_n hx hb dX10_order_36 rfl (lv_at hl 3 rfl) ?_
        refine cr_V (As := [.int (nI k)]) (rest := [.ref (L 0 0)]) hx hb hml hown hu hE (c_LG2 l E A σ L (nI k)) kJx4a65c_get_915e3 u275 ((cd_lex hC (j := 2) (by omega)).choose_spec) rfl rfl (⟨hC, nI_okN hI (by omega)⟩) ⟨Nat.le_of_ble_eq_true rfl, Nat.le_of_ble_eq_true rfl⟩ rfl hl.1 rfl (Nat.le_of_ble_eq_true rfl) ⟨Nat.le_of_ble_eq_true rfl, Nat.le_of_ble_eq_true rfl⟩ dX10_order_37 ?_
        refine cl_cast hx hb hown hu hE ok7 u437 (cd_not hC (okN_lt (nI_okN hI (by omega)))) dX10_order_40 ?_
        refine lv_iload_n hx hb dX10_order_43 rfl (lv_at hl 1 rfl) ?_
        refine ct_V (As := [.ref (L 22 (nI k).toNatClampNeg), .int d]) (rest := []) hx hb hml hown hu hE hZ hS (fun _ h => h) (fun q h => hA q (Nat.le_trans hS.1 h)) (x_bbo l E A σ L pl (nI k) d) kX10_bookByOrder u632 (cd_reg hC) rfl rfl (⟨hC, hI, (nI_okN hI (by omega)), hL, hK, hD, hPl⟩) ⟨Nat.le_of_ble_eq_true rfl, Nat.le_of_ble_eq_true rfl⟩ rfl hl.1 rfl (Nat.le_of_ble_eq_true rfl) ⟨Nat.le_of_ble_eq_true rfl, Nat.le_of_ble_eq_true rfl⟩ dX10_order_44 (fun v6 H1 locs1 hR hS hz hk => ?_)
        obtain ⟨rfl, hC, hPl⟩ := hR
        refine onB (fun b7 => ?_) (fun b7 => ?_)
        · refine lv_if_eq (tgt := 53) hx hb dX10_order_47 (by decide) (fun c8 => absurd c8 (by decide)) (fun _ => ?_)
          refine lv_iinc (v := r + 1) (lv' := [(2, .int (r + 1)), (0, .ref (L 0 0)), (1, .int d), (3, .int (nI k))]) hx hb dX10_order_50 hl (k := 2) rfl rfl (by decide) rfl (fun ls hl => ?_)
          refine lv_iinc (v := nI (k + 1)) (lv' := [(3, .int (nI (k + 1))), (2, .int (r + 1)), (0, .ref (L 0 0)), (1, .int d)]) hx hb dX10_order_53 hl (k := 3) rfl (nI_1 k) (by decide) rfl (fun ls hl => ?_)
          refine lv_goto (tgt := 20) hx hb dX10_order_56 (by decide) ?_
          exact ih (k + 1) (r + 1) _ _ (by rw [bbo_n]; omega) (by simp only [k_orL, b7, Bool.not_true, Bool.not_false, Bool.and_true, Bool.true_and, Bool.and_false, Bool.false_and, Bool.or_true, Bool.true_or, Bool.or_false, Bool.false_or, Bool.and_self, Bool.or_self, eq_self, if_true, Bool.false_eq_true, if_false] at hi; exact hi) (bbo_M hI) (bbo_L hI hL) (bbo_P hK) _ _ hC hPl hS _ (lv_sub hl [2, 3, 1, 0] rfl)
        · refine lv_if_eq (tgt := 53) hx hb dX10_order_47 (by decide) (fun _ => ?_) (fun c9 => absurd (by decide) c9)
          refine lv_iinc (v := nI (k + 1)) (lv' := [(3, .int (nI (k + 1))), (0, .ref (L 0 0)), (1, .int d), (2, .int r)]) hx hb dX10_order_53 hl (k := 3) rfl (nI_1 k) (by decide) rfl (fun ls hl => ?_)
          refine lv_goto (tgt := 20) hx hb dX10_order_56 (by decide) ?_
          exact ih (k + 1) r _ _ (by rw [bbo_n]; omega) (by simp only [k_orL, b7, Bool.not_true, Bool.not_false, Bool.and_true, Bool.true_and, Bool.and_false, Bool.false_and, Bool.or_true, Bool.true_or, Bool.or_false, Bool.false_or, Bool.and_self, Bool.or_self, eq_self, if_true, Bool.false_eq_true, if_false] at hi; exact hi) (bbo_M hI) (bbo_L hI hL) (bbo_P hK) _ _ hC hPl hS _ (lv_sub hl [1, 2, 3, 0] rfl)
    exact lo_ (nn σ 23) 0 0 σ _ (by omega) hT.symm hI hL hK _ _ hC hPl hS _ (lv_sub hl [2, 3, 1, 0] rfl)
  · refine lv_if_ne (tgt := 10) hx hb dX10_order_5 (by decide) (fun c10 => absurd c10 (by decide)) (fun _ => ?_)
    refine lv_iconst (v := (-1)) hx hb dX10_order_8 (by decide) ?_
    exact ct_ri hx hb hr hlocks hS (by rw [← hσ]; (have hB : m_in d (σ 0 0) 20000 = false := b1); unfold k_order; rw [hB]; exact ⟨L, rfl, hC, rfl⟩) (Nat.le_of_ble_eq_true rfl) (Nat.le_of_ble_eq_true rfl) dX10_order_9
