set_option maxHeartbeats 1000000 in
set_option maxRecDepth 20000 in
theorem x_child (l : Launch) (E : EV) (A : Nat → Prop) (σ : St) (L : Nat → Nat → Nat) (x y : Int32) : Cr l E yX9_isChildOf cX9_isChildOf 2 (some .boolean) 0 0 [.ref (L 21 x.toNatClampNeg), .ref (L 21 y.toNatClampNeg)] (fun H => Cd E A σ L H ∧ InvM σ ∧ okP σ x ∧ okP σ y) (some (.int (bI (c_child σ x y)))) := by
  refine Cr.of (by decide +kernel) (Nat.le_of_ble_eq_true rfl) (fun pg ev s mi bel mth cd hx hb hr hml hown hu hlocks hE hP ls hl => ?_)
  have hl : lv_has ls 2 [(0, .ref (L 21 x.toNatClampNeg)), (1, .ref (L 21 y.toNatClampNeg))] := hl
  obtain ⟨hC, hI, hX, hY⟩ := hP
  refine lv_aload_n hx hb dX9_isChildOf_0 rfl (lv_at hl 0 rfl) ?_
  refine rd_get (k := 5) (v := va_rf (rfo L (gA σ 6 x))) hx hb hown hu hE ok10 (cd_per hC (okP_lt hX)) (by decide) u308 (fun _ h => h) rfl dX9_isChildOf_1 ?_
  refine onQ (fun q1 => ?_) (fun q1 => ?_)
  · refine lv_aload_n hx hb dX9_isChildOf_4 rfl (lv_at hl 1 rfl) ?_
    refine lv_acmp_eq (rx := none) (ry := some (L 21 y.toNatClampNeg)) (tgt := 16) hx hb dX9_isChildOf_5 (by decide) (fun c2 => absurd c2 (by intro z; cases z)) (fun _ => ?_)
    refine lv_aload_n hx hb dX9_isChildOf_8 rfl (lv_at hl 0 rfl) ?_
    refine rd_get (k := 6) (v := va_rf (rfo L (gA σ 7 x))) hx hb hown hu hE ok10 (cd_per hC (okP_lt hX)) (by decide) u310 (fun _ h => h) rfl dX9_isChildOf_9 ?_
    refine onQ (fun q3 => ?_) (fun q3 => ?_)
    · refine lv_aload_n hx hb dX9_isChildOf_12 rfl (lv_at hl 1 rfl) ?_
      refine lv_acmp_ne (rx := none) (ry := some (L 21 y.toNatClampNeg)) (tgt := 20) hx hb dX9_isChildOf_13 (by decide) (fun _ => ?_) (fun c4 => absurd c4 (by intro z; cases z))
      refine lv_iconst (v := 0) hx hb dX9_isChildOf_20 (by decide) ?_
      exact cr_rz hx hb hr hlocks (by simp only [c_child, decide_eq_true q1, decide_eq_false (show ¬ gA σ 6 x = y from fun z => okP_ne hY (z.symm.trans q1)), decide_eq_true q3, decide_eq_false (show ¬ gA σ 7 x = y from fun z => okP_ne hY (z.symm.trans q3)), Bool.not_true, Bool.not_false, Bool.and_true, Bool.true_and, Bool.and_false, Bool.false_and, Bool.or_true, Bool.true_or, Bool.or_false, Bool.false_or, Bool.and_self, Bool.or_self, eq_self, if_true, Bool.false_eq_true, if_false] <;> rfl) (rfl) dX9_isChildOf_21
    · refine lv_aload_n hx hb dX9_isChildOf_12 rfl (lv_at hl 1 rfl) ?_
      refine ac_ne (x := gA σ 7 x) (y := y) (tgt := 20) hx hb (per_inj hC (okPN_of (mo_ok hI hX) q3) hY) (fun z => by rw [z]) dX9_isChildOf_13 (by decide) (fun c5 => ?_) (fun c5 => ?_)
      · refine lv_iconst (v := 0) hx hb dX9_isChildOf_20 (by decide) ?_
        exact cr_rz hx hb hr hlocks (by simp only [c_child, decide_eq_true q1, decide_eq_false (show ¬ gA σ 6 x = y from fun z => okP_ne hY (z.symm.trans q1)), decide_eq_false q3, decide_eq_false c5, Bool.not_true, Bool.not_false, Bool.and_true, Bool.true_and, Bool.and_false, Bool.false_and, Bool.or_true, Bool.true_or, Bool.or_false, Bool.false_or, Bool.and_self, Bool.or_self, eq_self, if_true, Bool.false_eq_true, if_false] <;> rfl) (rfl) dX9_isChildOf_21
      · refine lv_iconst (v := 1) hx hb dX9_isChildOf_16 (by decide) ?_
        refine lv_goto (tgt := 21) hx hb dX9_isChildOf_17 (by decide) ?_
        exact cr_rz hx hb hr hlocks (by simp only [c_child, decide_eq_true q1, decide_eq_false (show ¬ gA σ 6 x = y from fun z => okP_ne hY (z.symm.trans q1)), decide_eq_false q3, decide_eq_true c5, Bool.not_true, Bool.not_false, Bool.and_true, Bool.true_and, Bool.and_false, Bool.false_and, Bool.or_true, Bool.true_or, Bool.or_false, Bool.false_or, Bool.and_self, Bool.or_self, eq_self, if_true, Bool.false_eq_true, if_false] <;> rfl) (rfl) dX9_isChildOf_21
  · refine lv_aload_n hx hb dX9_isChildOf_4 rfl (lv_at hl 1 rfl) ?_
    refine ac_eq (x := gA σ 6 x) (y := y) (tgt := 16) hx hb (per_inj hC (okPN_of (fa_ok hI hX) q1) hY) (fun z => by rw [z]) dX9_isChildOf_5 (by decide) (fun c6 => ?_) (fun c6 => ?_)
    · refine lv_iconst (v := 1) hx hb dX9_isChildOf_16 (by decide) ?_
      refine lv_goto (tgt := 21) hx hb dX9_isChildOf_17 (by decide) ?_
      exact cr_rz hx hb hr hlocks (by simp only [c_child, decide_eq_false q1, decide_eq_true c6, Bool.not_true, Bool.not_false, Bool.and_true, Bool.true_and, Bool.and_false, Bool.false_and, Bool.or_true, Bool.true_or, Bool.or_false, Bool.false_or, Bool.and_self, Bool.or_self, eq_self, if_true, Bool.false_eq_true, if_false] <;> rfl) (rfl) dX9_isChildOf_21
    · refine lv_aload_n hx hb dX9_isChildOf_8 rfl (lv_at hl 0 rfl) ?_
      refine rd_get (k := 6) (v := va_rf (rfo L (gA σ 7 x))) hx hb hown hu hE ok10 (cd_per hC (okP_lt hX)) (by decide) u310 (fun _ h => h) rfl dX9_isChildOf_9 ?_
      refine onQ (fun q7 => ?_) (fun q7 => ?_)
      · refine lv_aload_n hx hb dX9_isChildOf_12 rfl (lv_at hl 1 rfl) ?_
        refine lv_acmp_ne (rx := none) (ry := some (L 21 y.toNatClampNeg)) (tgt := 20) hx hb dX9_isChildOf_13 (by decide) (fun _ => ?_) (fun c8 => absurd c8 (by intro z; cases z))
        refine lv_iconst (v := 0) hx hb dX9_isChildOf_20 (by decide) ?_
        exact cr_rz hx hb hr hlocks (by simp only [c_child, decide_eq_false q1, decide_eq_false c6, decide_eq_true q7, decide_eq_false (show ¬ gA σ 7 x = y from fun z => okP_ne hY (z.symm.trans q7)), Bool.not_true, Bool.not_false, Bool.and_true, Bool.true_and, Bool.and_false, Bool.false_and, Bool.or_true, Bool.true_or, Bool.or_false, Bool.false_or, Bool.and_self, Bool.or_self, eq_self, if_true, Bool.false_eq_true, if_false] <;> rfl) (rfl) dX9_isChildOf_21
      · refine lv_aload_n hx hb dX9_isChildOf_12 rfl (lv_at hl 1 rfl) ?_
        refine ac_ne (x := gA σ 7 x) (y := y) (tgt := 20) hx hb (per_inj hC (okPN_of (mo_ok hI hX) q7) hY) (fun z => by rw [z]) dX9_isChildOf_13 (by decide) (fun c9 => ?_) (fun c9 => ?_)
        · refine lv_iconst (v := 0) hx hb dX9_isChildOf_20 (by decide) ?_
          exact cr_rz hx hb hr hlocks (by simp only [c_child, decide_eq_false q1, decide_eq_false c6, decide_eq_false q7, decide_eq_false c9, Bool.not_true, Bool.not_false, Bool.and_true, Bool.true_and, Bool.and_false, Bool.false_and, Bool.or_true, Bool.true_or, Bool.or_false, Bool.false_or, Bool.and_self, Bool.or_self, eq_self, if_true, Bool.false_eq_true, if_false] <;> rfl) (rfl) dX9_isChildOf_21
        · refine lv_iconst (v := 1) hx hb dX9_isChildOf_16 (by decide) ?_
          refine lv_goto (tgt := 21) hx hb dX9_isChildOf_17 (by decide) ?_
          exact cr_rz hx hb hr hlocks (by simp only [c_child, decide_eq_false q1, decide_eq_false c6, decide_eq_false q7, decide_eq_true c9, Bool.not_true, Bool.not_false, Bool.and_true, Bool.true_and, Bool.and_false, Bool.false_and, Bool.or_true, Bool.true_or, Bool.or_false, Bool.false_or, Bool.and_self, Bool.or_self, eq_self, if_true, Bool.false_eq_true, if_false] <;> rfl) (rfl) dX9_isChildOf_21
set_option maxHeartbeats 1000000 in
set_option maxRecDepth 20000 in
theorem x_shares (l : Launch) (E : EV) (A : Nat → Prop) (σ : St) (L : Nat → Nat → Nat) (x y : Int32) : Cr l E yX9_sharesParentWith cX9_sharesParentWith 2 (some .boolean) 0 0 [.ref (L 21 x.toNatClampNeg), .ref (L 21 y.toNatClampNeg)] (fun H => Cd E A σ L H ∧ InvM σ ∧ okP σ x ∧ okP σ y) (some (.int (bI (c_shares σ x y)))) := by
  refine Cr.of (by decide +kernel) (Nat.le_of_ble_eq_true rfl) (fun pg ev s mi bel mth cd hx hb hr hml hown hu hlocks hE hP ls hl => ?_)
  have hl : lv_has ls 2 [(0, .ref (L 21 x.toNatClampNeg)), (1, .ref (L 21 y.toNatClampNeg))] := hl
  obtain ⟨hC, hI, hX, hY⟩ := hP
  refine lv_aload_n hx hb dX9_sharesParentWith_0 rfl (lv_at hl 0 rfl) ?_
  refine rd_get (k := 5) (v := va_rf (rfo L (gA σ 6 x))) hx hb hown hu hE ok10 (cd_per hC (okP_lt hX)) (by decide) u308 (fun _ h => h) rfl dX9_sharesParentWith_1 ?_
  refine onQ (fun q1 => ?_) (fun q1 => ?_)
  · refine lv_ifnullN (tgt := 18) hx hb dX9_sharesParentWith_4 (by decide) ?_
    refine lv_aload_n hx hb dX9_sharesParentWith_18 rfl (lv_at hl 0 rfl) ?_
    refine rd_get (k := 6) (v := va_rf (rfo L (gA σ 7 x))) hx hb hown hu hE ok10 (cd_per hC (okP_lt hX)) (by decide) u310 (fun _ h => h) rfl dX9_sharesParentWith_19 ?_
    refine onQ (fun q2 => ?_) (fun q2 => ?_)
    · refine lv_ifnullN (tgt := 40) hx hb dX9_sharesParentWith_22 (by decide) ?_
      refine lv_iconst (v := 0) hx hb dX9_sharesParentWith_40 (by decide) ?_
      exact cr_rz hx hb hr hlocks (by simp only [c_shares, decide_eq_true q1, decide_eq_true q2, Bool.not_true, Bool.not_false, Bool.and_true, Bool.true_and, Bool.and_false, Bool.false_and, Bool.or_true, Bool.true_or, Bool.or_false, Bool.false_or, Bool.and_self, Bool.or_self, eq_self, if_true, Bool.false_eq_true, if_false] <;> rfl) (rfl) dX9_sharesParentWith_41
    · refine lv_ifnull hx hb dX9_sharesParentWith_22 ?_
      refine lv_aload_n hx hb dX9_sharesParentWith_25 rfl (lv_at hl 0 rfl) ?_
      refine rd_get (k := 6) (v := va_rf (rfo L (gA σ 7 x))) hx hb hown hu hE ok10 (cd_per hC (okP_lt hX)) (by decide) u310 (fun _ h => h) rfl dX9_sharesParentWith_26 ?_
      rw [rfo_s q2]
      refine lv_aload_n hx hb dX9_sharesParentWith_29 rfl (lv_at hl 1 rfl) ?_
      refine rd_get (k := 6) (v := va_rf (rfo L (gA σ 7 y))) hx hb hown hu hE ok10 (cd_per hC (okP_lt hY)) (by decide) u310 (fun _ h => h) rfl dX9_sharesParentWith_30 ?_
      refine onQ (fun q3 => ?_) (fun q3 => ?_)
      · refine lv_acmp_ne (rx := some (L 21 (gA σ 7 x).toNatClampNeg)) (ry := none) (tgt := 40) hx hb dX9_sharesParentWith_33 (by decide) (fun _ => ?_) (fun c4 => absurd c4 (by intro z; cases z))
        refine lv_iconst (v := 0) hx hb dX9_sharesParentWith_40 (by decide) ?_
        exact cr_rz hx hb hr hlocks (by simp only [c_shares, decide_eq_true q1, decide_eq_false q2, decide_eq_true q3, decide_eq_false (show ¬ gA σ 7 x = gA σ 7 y from fun z => okP_ne (okPN_of (mo_ok hI hX) q2) (z.trans q3)), Bool.not_true, Bool.not_false, Bool.and_true, Bool.true_and, Bool.and_false, Bool.false_and, Bool.or_true, Bool.true_or, Bool.or_false, Bool.false_or, Bool.and_self, Bool.or_self, eq_self, if_true, Bool.false_eq_true, if_false] <;> rfl) (rfl) dX9_sharesParentWith_41
      · refine ac_ne (x := gA σ 7 x) (y := gA σ 7 y) (tgt := 40) hx hb (per_inj hC (okPN_of (mo_ok hI hX) q2) (okPN_of (mo_ok hI hY) q3)) (fun z => by rw [z]) dX9_sharesParentWith_33 (by decide) (fun c5 => ?_) (fun c5 => ?_)
        · refine lv_iconst (v := 0) hx hb dX9_sharesParentWith_40 (by decide) ?_
          exact cr_rz hx hb hr hlocks (by simp only [c_shares, decide_eq_true q1, decide_eq_false q2, decide_eq_false q3, decide_eq_false c5, Bool.not_true, Bool.not_false, Bool.and_true, Bool.true_and, Bool.and_false, Bool.false_and, Bool.or_true, Bool.true_or, Bool.or_false, Bool.false_or, Bool.and_self, Bool.or_self, eq_self, if_true, Bool.false_eq_true, if_false] <;> rfl) (rfl) dX9_sharesParentWith_41
        · refine lv_iconst (v := 1) hx hb dX9_sharesParentWith_36 (by decide) ?_
          refine lv_goto (tgt := 41) hx hb dX9_sharesParentWith_37 (by decide) ?_
          exact cr_rz hx hb hr hlocks (by simp only [c_shares, decide_eq_true q1, decide_eq_false q2, decide_eq_false q3, decide_eq_true c5, Bool.not_true, Bool.not_false, Bool.and_true, Bool.true_and, Bool.and_false, Bool.false_and, Bool.or_true, Bool.true_or, Bool.or_false, Bool.false_or, Bool.and_self, Bool.or_self, eq_self, if_true, Bool.false_eq_true, if_false] <;> rfl) (rfl) dX9_sharesParentWith_41
  · refine lv_ifnull hx hb dX9_sharesParentWith_4 ?_
    refine lv_aload_n hx hb dX9_sharesParentWith_7 rfl (lv_at hl 0 rfl) ?_
    refine rd_get (k := 5) (v := va_rf (rfo L (gA σ 6 x))) hx hb hown hu hE ok10 (cd_per hC (okP_lt hX)) (by decide) u308 (fun _ h => h) rfl dX9_sharesParentWith_8 ?_
    rw [rfo_s q1]
    refine lv_aload_n hx hb dX9_sharesParentWith_11 rfl (lv_at hl 1 rfl) ?_
    refine rd_get (k := 5) (v := va_rf (rfo L (gA σ 6 y))) hx hb hown hu hE ok10 (cd_per hC (okP_lt hY)) (by decide) u308 (fun _ h => h) rfl dX9_sharesParentWith_12 ?_
    refine onQ (fun q6 => ?_) (fun q6 => ?_)
    · refine lv_acmp_eq (rx := some (L 21 (gA σ 6 x).toNatClampNeg)) (ry := none) (tgt := 36) hx hb dX9_sharesParentWith_15 (by decide) (fun c7 => absurd c7 (by intro z; cases z)) (fun _ => ?_)
      refine lv_aload_n hx hb dX9_sharesParentWith_18 rfl (lv_at hl 0 rfl) ?_
      refine rd_get (k := 6) (v := va_rf (rfo L (gA σ 7 x))) hx hb hown hu hE ok10 (cd_per hC (okP_lt hX)) (by decide) u310 (fun _ h => h) rfl dX9_sharesParentWith_19 ?_
      refine onQ (fun q8 => ?_) (fun q8 => ?_)
      · refine lv_ifnullN (tgt := 40) hx hb dX9_sharesParentWith_22 (by decide) ?_
        refine lv_iconst (v := 0) hx hb dX9_sharesParentWith_40 (by decide) ?_
        exact cr_rz hx hb hr hlocks (by simp only [c_shares, decide_eq_false q1, decide_eq_true q6, decide_eq_false (show ¬ gA σ 6 x = gA σ 6 y from fun z => okP_ne (okPN_of (fa_ok hI hX) q1) (z.trans q6)), decide_eq_true q8, Bool.not_true, Bool.not_false, Bool.and_true, Bool.true_and, Bool.and_false, Bool.false_and, Bool.or_true, Bool.true_or, Bool.or_false, Bool.false_or, Bool.and_self, Bool.or_self, eq_self, if_true, Bool.false_eq_true, if_false] <;> rfl) (rfl) dX9_sharesParentWith_41
      · refine lv_ifnull hx hb dX9_sharesParentWith_22 ?_
        refine lv_aload_n hx hb dX9_sharesParentWith_25 rfl (lv_at hl 0 rfl) ?_
        refine rd_get (k := 6) (v := va_rf (rfo L (gA σ 7 x))) hx hb hown hu hE ok10 (cd_per hC (okP_lt hX)) (by decide) u310 (fun _ h => h) rfl dX9_sharesParentWith_26 ?_
        rw [rfo_s q8]
        refine lv_aload_n hx hb dX9_sharesParentWith_29 rfl (lv_at hl 1 rfl) ?_
        refine rd_get (k := 6) (v := va_rf (rfo L (gA σ 7 y))) hx hb hown hu hE ok10 (cd_per hC (okP_lt hY)) (by decide) u310 (fun _ h => h) rfl dX9_sharesParentWith_30 ?_
        refine onQ (fun q9 => ?_) (fun q9 => ?_)
        · refine lv_acmp_ne (rx := some (L 21 (gA σ 7 x).toNatClampNeg)) (ry := none) (tgt := 40) hx hb dX9_sharesParentWith_33 (by decide) (fun _ => ?_) (fun c10 => absurd c10 (by intro z; cases z))
          refine lv_iconst (v := 0) hx hb dX9_sharesParentWith_40 (by decide) ?_
          exact cr_rz hx hb hr hlocks (by simp only [c_shares, decide_eq_false q1, decide_eq_true q6, decide_eq_false (show ¬ gA σ 6 x = gA σ 6 y from fun z => okP_ne (okPN_of (fa_ok hI hX) q1) (z.trans q6)), decide_eq_false q8, decide_eq_true q9, decide_eq_false (show ¬ gA σ 7 x = gA σ 7 y from fun z => okP_ne (okPN_of (mo_ok hI hX) q8) (z.trans q9)), Bool.not_true, Bool.not_false, Bool.and_true, Bool.true_and, Bool.and_false, Bool.false_and, Bool.or_true, Bool.true_or, Bool.or_false, Bool.false_or, Bool.and_self, Bool.or_self, eq_self, if_true, Bool.false_eq_true, if_false] <;> rfl) (rfl) dX9_sharesParentWith_41
        · refine ac_ne (x := gA σ 7 x) (y := gA σ 7 y) (tgt := 40) hx hb (per_inj hC (okPN_of (mo_ok hI hX) q8) (okPN_of (mo_ok hI hY) q9)) (fun z => by rw [z]) dX9_sharesParentWith_33 (by decide) (fun c11 => ?_) (fun c11 => ?_)
          · refine lv_iconst (v := 0) hx hb dX9_sharesParentWith_40 (by decide) ?_
            exact cr_rz hx hb hr hlocks (by simp only [c_shares, decide_eq_false q1, decide_eq_true q6, decide_eq_false (show ¬ gA σ 6 x = gA σ 6 y from fun z => okP_ne (okPN_of (fa_ok hI hX) q1) (z.trans q6)), decide_eq_false q8, decide_eq_false q9, decide_eq_false c11, Bool.not_true, Bool.not_false, Bool.and_true, Bool.true_and, Bool.and_false, Bool.false_and, Bool.or_true, Bool.true_or, Bool.or_false, Bool.false_or, Bool.and_self, Bool.or_self, eq_self, if_true, Bool.false_eq_true, if_false] <;> rfl) (rfl) dX9_sharesParentWith_41
          · refine lv_iconst (v := 1) hx hb dX9_sharesParentWith_36 (by decide) ?_
            refine lv_goto (tgt := 41) hx hb dX9_sharesParentWith_37 (by decide) ?_
            exact cr_rz hx hb hr hlocks (by simp only [c_shares, decide_eq_false q1, decide_eq_true q6, decide_eq_false (show ¬ gA σ 6 x = gA σ 6 y from fun z => okP_ne (okPN_of (fa_ok hI hX) q1) (z.trans q6)), decide_eq_false q8, decide_eq_false q9, decide_eq_true c11, Bool.not_true, Bool.not_false, Bool.and_true, Bool.true_and, Bool.and_false, Bool.false_and, Bool.or_true, Bool.true_or, Bool.or_false, Bool.false_or, Bool.and_self, Bool.or_self, eq_self, if_true, Bool.false_eq_true, if_false] <;> rfl) (rfl) dX9_sharesParentWith_41
    · refine ac_eq (x := gA σ 6 x) (y := gA σ 6 y) (tgt := 36) hx hb (per_inj hC (okPN_of (fa_ok hI hX) q1) (okPN_of (fa_ok hI hY) q6)) (fun z => by rw [z]) dX9_sharesParentWith_15 (by decide) (fun c12 => ?_) (fun c12 => ?_)
      · refine lv_iconst (v := 1) hx hb dX9_sharesParentWith_36 (by decide) ?_
        refine lv_goto (tgt := 41) hx hb dX9_sharesParentWith_37 (by decide) ?_
        exact cr_rz hx hb hr hlocks (by simp only [c_shares, decide_eq_false q1, decide_eq_false q6, decide_eq_true c12, Bool.not_true, Bool.not_false, Bool.and_true, Bool.true_and, Bool.and_false, Bool.false_and, Bool.or_true, Bool.true_or, Bool.or_false, Bool.false_or, Bool.and_self, Bool.or_self, eq_self, if_true, Bool.false_eq_true, if_false] <;> rfl) (rfl) dX9_sharesParentWith_41
      · refine lv_aload_n hx hb dX9_sharesParentWith_18 rfl (lv_at hl 0 rfl) ?_
        refine rd_get (k := 6) (v := va_rf (rfo L (gA σ 7 x))) hx hb hown hu hE ok10 (cd_per hC (okP_lt hX)) (by decide) u310 (fun _ h => h) rfl dX9_sharesParentWith_19 ?_
        refine onQ (fun q13 => ?_) (fun q13 => ?_)
        · refine lv_ifnullN (tgt := 40) hx hb dX9_sharesParentWith_22 (by decide) ?_
          refine lv_iconst (v := 0) hx hb dX9_sharesParentWith_40 (by decide) ?_
          exact cr_rz hx hb hr hlocks (by simp only [c_shares, decide_eq_false q1, decide_eq_false q6, decide_eq_false c12, decide_eq_true q13, Bool.not_true, Bool.not_false, Bool.and_true, Bool.true_and, Bool.and_false, Bool.false_and, Bool.or_true, Bool.true_or, Bool.or_false, Bool.false_or, Bool.and_self, Bool.or_self, eq_self, if_true, Bool.false_eq_true, if_false] <;> rfl) (rfl) dX9_sharesParentWith_41
        · refine lv_ifnull hx hb dX9_sharesParentWith_22 ?_
          refine lv_aload_n hx hb dX9_sharesParentWith_25 rfl (lv_at hl 0 rfl) ?_
          refine rd_get (k := 6) (v := va_rf (rfo L (gA σ 7 x))) hx hb hown hu hE ok10 (cd_per hC (okP_lt hX)) (by decide) u310 (fun _ h => h) rfl dX9_sharesParentWith_26 ?_
          rw [rfo_s q13]
          refine lv_aload_n hx hb dX9_sharesParentWith_29 rfl (lv_at hl 1 rfl) ?_
          refine rd_get (k := 6) (v := va_rf (rfo L (gA σ 7 y))) hx hb hown hu hE ok10 (cd_per hC (okP_lt hY)) (by decide) u310 (fun _ h => h) rfl dX9_sharesParentWith_30 ?_
          refine onQ (fun q14 => ?_) (fun q14 => ?_)
          · refine lv_acmp_ne (rx := some (L 21 (gA σ 7 x).toNatClampNeg)) (ry := none) (tgt := 40) hx hb dX9_sharesParentWith_33 (by decide) (fun _ => ?_) (fun c15 => absurd c15 (by intro z; cases z))
            refine lv_iconst (v := 0) hx hb dX9_sharesParentWith_40 (by decide) ?_
            exact cr_rz hx hb hr hlocks (by simp only [c_shares, decide_eq_false q1, decide_eq_false q6, decide_eq_false c12, decide_eq_false q13, decide_eq_true q14, decide_eq_false (show ¬ gA σ 7 x = gA σ 7 y from fun z => okP_ne (okPN_of (mo_ok hI hX) q13) (z.trans q14)), Bool.not_true, Bool.not_false, Bool.and_true, Bool.true_and, Bool.and_false, Bool.false_and, Bool.or_true, Bool.true_or, Bool.or_false, Bool.false_or, Bool.and_self, Bool.or_self, eq_self, if_true, Bool.false_eq_true, if_false] <;> rfl) (rfl) dX9_sharesParentWith_41
          · refine ac_ne (x := gA σ 7 x) (y := gA σ 7 y) (tgt := 40) hx hb (per_inj hC (okPN_of (mo_ok hI hX) q13) (okPN_of (mo_ok hI hY) q14)) (fun z => by rw [z]) dX9_sharesParentWith_33 (by decide) (fun c16 => ?_) (fun c16 => ?_)
            · refine lv_iconst (v := 0) hx hb dX9_sharesParentWith_40 (by decide) ?_
              exact cr_rz hx hb hr hlocks (by simp only [c_shares, decide_eq_false q1, decide_eq_false q6, decide_eq_false c12, decide_eq_false q13, decide_eq_false q14, decide_eq_false c16, Bool.not_true, Bool.not_false, Bool.and_true, Bool.true_and, Bool.and_false, Bool.false_and, Bool.or_true, Bool.true_or, Bool.or_false, Bool.false_or, Bool.and_self, Bool.or_self, eq_self, if_true, Bool.false_eq_true, if_false] <;> rfl) (rfl) dX9_sharesParentWith_41
            · refine lv_iconst (v := 1) hx hb dX9_sharesParentWith_36 (by decide) ?_
              refine lv_goto (tgt := 41) hx hb dX9_sharesParentWith_37 (by decide) ?_
              exact cr_rz hx hb hr hlocks (by simp only [c_shares, decide_eq_false q1, decide_eq_false q6, decide_eq_false c12, decide_eq_false q13, decide_eq_false q14, decide_eq_true c16, Bool.not_true, Bool.not_false, Bool.and_true, Bool.true_and, Bool.and_false, Bool.false_and, Bool.or_true, Bool.true_or, Bool.or_false, Bool.false_or, Bool.and_self, Bool.or_self, eq_self, if_true, Bool.false_eq_true, if_false] <;> rfl) (rfl) dX9_sharesParentWith_41
set_option maxHeartbeats 1000000 in
set_option maxRecDepth 20000 in
theorem x_nearAs (l : Launch) (E : EV) (A : Nat → Prop) (σ : St) (L : Nat → Nat → Nat) (x y : Int32) : Cr l E yX10_isNearAs cX10_isNearAs 2 (some .boolean) 1 21 [va_rf (rfo L x), .ref (L 21 y.toNatClampNeg)] (fun H => Cd E A σ L H ∧ InvM σ ∧ okPN σ x ∧ okP σ y) (some (.int (bI (c_nearAs σ x y)))) := by
  refine Cr.of (by decide +kernel) (by cases rfo L x <;> exact Nat.le_of_ble_eq_true rfl) (fun pg ev s mi bel mth cd hx hb hr hml hown hu hlocks hE hP ls hl => ?_)
  have hl : lv_has ls 2 [(0, va_rf (rfo L x)), (1, .ref (L 21 y.toNatClampNeg))] := by (revert hl; cases rfo L x <;> exact id)
  obtain ⟨hC, hI, hX, hY⟩ := hP
  by_cases hq0 : x = -1
  · rw [rfo_n hq0] at hl
    refine lv_aload_nN hx hb dX10_isNearAs_0 rfl (lv_at hl 0 rfl) ?_
    refine lv_ifnullN (tgt := 24) hx hb dX10_isNearAs_1 (by decide) ?_
    refine lv_iconst (v := 0) hx hb dX10_isNearAs_24 (by decide) ?_
    exact cr_rz hx hb hr hlocks (by simp only [c_nearAs, decide_eq_true hq0, Bool.not_true, Bool.not_false, Bool.and_true, Bool.true_and, Bool.and_false, Bool.false_and, Bool.or_true, Bool.true_or, Bool.or_false, Bool.false_or, Bool.and_self, Bool.or_self, eq_self, if_true, Bool.false_eq_true, if_false] <;> rfl) (rfl) dX10_isNearAs_25
  · rw [rfo_s hq0] at hl
    refine lv_aload_n hx hb dX10_isNearAs_0 rfl (lv_at hl 0 rfl) ?_
    refine lv_ifnull hx hb dX10_isNearAs_1 ?_
    refine lv_aload_n hx hb dX10_isNearAs_4 rfl (lv_at hl 0 rfl) ?_
    refine lv_aload_n hx hb dX10_isNearAs_5 rfl (lv_at hl 1 rfl) ?_
    refine cr_V (As := [.ref (L 21 y.toNatClampNeg)]) (rest := []) hx hb hml hown hu hE (x_shares l E A σ L x y) kX9_sharesParentWith u383 (cd_per hC (okP_lt (okPN_of hX hq0))) rfl rfl (⟨hC, hI, (okPN_of hX hq0), hY⟩) ⟨Nat.le_of_ble_eq_true rfl, Nat.le_of_ble_eq_true rfl⟩ rfl hl.1 rfl (Nat.le_of_ble_eq_true rfl) ⟨Nat.le_of_ble_eq_true rfl, Nat.le_of_ble_eq_true rfl⟩ dX10_isNearAs_6 ?_
    refine onB (fun b1 => ?_) (fun b1 => ?_)
    · refine lv_if_ne (tgt := 20) hx hb dX10_isNearAs_9 (by decide) (fun _ => ?_) (fun c2 => absurd c2 (by decide))
      refine lv_iconst (v := 1) hx hb dX10_isNearAs_20 (by decide) ?_
      refine lv_goto (tgt := 25) hx hb dX10_isNearAs_21 (by decide) ?_
      exact cr_rz hx hb hr hlocks (by simp only [c_nearAs, decide_eq_false hq0, b1, Bool.not_true, Bool.not_false, Bool.and_true, Bool.true_and, Bool.and_false, Bool.false_and, Bool.or_true, Bool.true_or, Bool.or_false, Bool.false_or, Bool.and_self, Bool.or_self, eq_self, if_true, Bool.false_eq_true, if_false] <;> rfl) (rfl) dX10_isNearAs_25
    · refine lv_if_ne (tgt := 20) hx hb dX10_isNearAs_9 (by decide) (fun c3 => absurd c3 (by decide)) (fun _ => ?_)
      refine lv_aload_n hx hb dX10_isNearAs_12 rfl (lv_at hl 0 rfl) ?_
      refine lv_aload_n hx hb dX10_isNearAs_13 rfl (lv_at hl 1 rfl) ?_
      refine cr_V (As := [.ref (L 21 y.toNatClampNeg)]) (rest := []) hx hb hml hown hu hE (x_child l E A σ L x y) kX9_isChildOf u379 (cd_per hC (okP_lt (okPN_of hX hq0))) rfl rfl (⟨hC, hI, (okPN_of hX hq0), hY⟩) ⟨Nat.le_of_ble_eq_true rfl, Nat.le_of_ble_eq_true rfl⟩ rfl hl.1 rfl (Nat.le_of_ble_eq_true rfl) ⟨Nat.le_of_ble_eq_true rfl, Nat.le_of_ble_eq_true rfl⟩ dX10_isNearAs_14 ?_
      refine onB (fun b4 => ?_) (fun b4 => ?_)
      · refine lv_if_eq (tgt := 24) hx hb dX10_isNearAs_17 (by decide) (fun c5 => absurd c5 (by decide)) (fun _ => ?_)
        refine lv_iconst (v := 1) hx hb dX10_isNearAs_20 (by decide) ?_
        refine lv_goto (tgt := 25) hx hb dX10_isNearAs_21 (by decide) ?_
        exact cr_rz hx hb hr hlocks (by simp only [c_nearAs, decide_eq_false hq0, b1, b4, Bool.not_true, Bool.not_false, Bool.and_true, Bool.true_and, Bool.and_false, Bool.false_and, Bool.or_true, Bool.true_or, Bool.or_false, Bool.false_or, Bool.and_self, Bool.or_self, eq_self, if_true, Bool.false_eq_true, if_false] <;> rfl) (rfl) dX10_isNearAs_25
      · refine lv_if_eq (tgt := 24) hx hb dX10_isNearAs_17 (by decide) (fun _ => ?_) (fun c6 => absurd (by decide) c6)
        refine lv_iconst (v := 0) hx hb dX10_isNearAs_24 (by decide) ?_
        exact cr_rz hx hb hr hlocks (by simp only [c_nearAs, decide_eq_false hq0, b1, b4, Bool.not_true, Bool.not_false, Bool.and_true, Bool.true_and, Bool.and_false, Bool.false_and, Bool.or_true, Bool.true_or, Bool.or_false, Bool.false_or, Bool.and_self, Bool.or_self, eq_self, if_true, Bool.false_eq_true, if_false] <;> rfl) (rfl) dX10_isNearAs_25
set_option maxHeartbeats 1000000 in
set_option maxRecDepth 20000 in
theorem x_near (l : Launch) (E : EV) (A : Nat → Prop) (σ : St) (L : Nat → Nat → Nat) (x y : Int32) : Cr l E yX10_isNearByParent cX10_isNearByParent 2 (some .boolean) 2 42 [.ref (L 21 x.toNatClampNeg), .ref (L 21 y.toNatClampNeg)] (fun H => Cd E A σ L H ∧ InvM σ ∧ okP σ x ∧ okP σ y) (some (.int (bI (c_near σ x y)))) := by
  refine Cr.of (by decide +kernel) (Nat.le_of_ble_eq_true rfl) (fun pg ev s mi bel mth cd hx hb hr hml hown hu hlocks hE hP ls hl => ?_)
  have hl : lv_has ls 2 [(0, .ref (L 21 x.toNatClampNeg)), (1, .ref (L 21 y.toNatClampNeg))] := hl
  obtain ⟨hC, hI, hX, hY⟩ := hP
  refine lv_aload_n hx hb dX10_isNearByParent_0 rfl (lv_at hl 0 rfl) ?_
  refine rd_get (k := 5) (v := va_rf (rfo L (gA σ 6 x))) hx hb hown hu hE ok10 (cd_per hC (okP_lt hX)) (by decide) u309 (fun _ h => h) rfl dX10_isNearByParent_1 ?_
  refine lv_aload_n hx hb dX10_isNearByParent_4 rfl (lv_at hl 1 rfl) ?_
  refine cr_S (As := [va_rf (rfo L (gA σ 6 x)), .ref (L 21 y.toNatClampNeg)]) (rest := []) hx hb hml hown hu hE (x_nearAs l E A σ L (gA σ 6 x) y) kX10_isNearAs u390 (⟨hC, hI, fa_ok hI hX, hY⟩) ⟨Nat.le_of_ble_eq_true rfl, Nat.le_of_ble_eq_true rfl⟩ rfl hl.1 rfl (Nat.le_of_ble_eq_true rfl) ⟨Nat.le_of_ble_eq_true rfl, Nat.le_of_ble_eq_true rfl⟩ dX10_isNearByParent_5 ?_
  refine onB (fun b1 => ?_) (fun b1 => ?_)
  · refine lv_if_ne (tgt := 22) hx hb dX10_isNearByParent_8 (by decide) (fun _ => ?_) (fun c2 => absurd c2 (by decide))
    refine lv_iconst (v := 1) hx hb dX10_isNearByParent_22 (by decide) ?_
    refine lv_goto (tgt := 27) hx hb dX10_isNearByParent_23 (by decide) ?_
    exact cr_rz hx hb hr hlocks (by simp only [c_near, b1, Bool.not_true, Bool.not_false, Bool.and_true, Bool.true_and, Bool.and_false, Bool.false_and, Bool.or_true, Bool.true_or, Bool.or_false, Bool.false_or, Bool.and_self, Bool.or_self, eq_self, if_true, Bool.false_eq_true, if_false] <;> rfl) (rfl) dX10_isNearByParent_27
  · refine lv_if_ne (tgt := 22) hx hb dX10_isNearByParent_8 (by decide) (fun c3 => absurd c3 (by decide)) (fun _ => ?_)
    refine lv_aload_n hx hb dX10_isNearByParent_11 rfl (lv_at hl 0 rfl) ?_
    refine rd_get (k := 6) (v := va_rf (rfo L (gA σ 7 x))) hx hb hown hu hE ok10 (cd_per hC (okP_lt hX)) (by decide) u311 (fun _ h => h) rfl dX10_isNearByParent_12 ?_
    refine lv_aload_n hx hb dX10_isNearByParent_15 rfl (lv_at hl 1 rfl) ?_
    refine cr_S (As := [va_rf (rfo L (gA σ 7 x)), .ref (L 21 y.toNatClampNeg)]) (rest := []) hx hb hml hown hu hE (x_nearAs l E A σ L (gA σ 7 x) y) kX10_isNearAs u390 (⟨hC, hI, mo_ok hI hX, hY⟩) ⟨Nat.le_of_ble_eq_true rfl, Nat.le_of_ble_eq_true rfl⟩ rfl hl.1 rfl (Nat.le_of_ble_eq_true rfl) ⟨Nat.le_of_ble_eq_true rfl, Nat.le_of_ble_eq_true rfl⟩ dX10_isNearByParent_16 ?_
    refine onB (fun b4 => ?_) (fun b4 => ?_)
    · refine lv_if_eq (tgt := 26) hx hb dX10_isNearByParent_19 (by decide) (fun c5 => absurd c5 (by decide)) (fun _ => ?_)
      refine lv_iconst (v := 1) hx hb dX10_isNearByParent_22 (by decide) ?_
      refine lv_goto (tgt := 27) hx hb dX10_isNearByParent_23 (by decide) ?_
      exact cr_rz hx hb hr hlocks (by simp only [c_near, b1, b4, Bool.not_true, Bool.not_false, Bool.and_true, Bool.true_and, Bool.and_false, Bool.false_and, Bool.or_true, Bool.true_or, Bool.or_false, Bool.false_or, Bool.and_self, Bool.or_self, eq_self, if_true, Bool.false_eq_true, if_false] <;> rfl) (rfl) dX10_isNearByParent_27
    · refine lv_if_eq (tgt := 26) hx hb dX10_isNearByParent_19 (by decide) (fun _ => ?_) (fun c6 => absurd (by decide) c6)
      refine lv_iconst (v := 0) hx hb dX10_isNearByParent_26 (by decide) ?_
      exact cr_rz hx hb hr hlocks (by simp only [c_near, b1, b4, Bool.not_true, Bool.not_false, Bool.and_true, Bool.true_and, Bool.and_false, Bool.false_and, Bool.or_true, Bool.true_or, Bool.or_false, Bool.false_or, Bool.and_self, Bool.or_self, eq_self, if_true, Bool.false_eq_true, if_false] <;> rfl) (rfl) dX10_isNearByParent_27
set_option maxHeartbeats 1000000 in
set_option maxRecDepth 20000 in
theorem x_shP (l : Launch) (E : EV) (A : Nat → Prop) (σ : St) (L : Nat → Nat → Nat) (x y : Int32) : Cr l E yX10_areSiblings cX10_areSiblings 2 (some .boolean) 1 21 [va_rf (rfo L x), va_rf (rfo L y)] (fun H => Cd E A σ L H ∧ InvM σ ∧ okPN σ x ∧ okPN σ y) (some (.int (bI (c_shP σ x y)))) := by
  refine Cr.of (by decide +kernel) (by cases rfo L x <;> cases rfo L y <;> exact Nat.le_of_ble_eq_true rfl) (fun pg ev s mi bel mth cd hx hb hr hml hown hu hlocks hE hP ls hl => ?_)
  have hl : lv_has ls 2 [(0, va_rf (rfo L x)), (1, va_rf (rfo L y))] := by (revert hl; cases rfo L x <;> cases rfo L y <;> exact id)
  obtain ⟨hC, hI, hX, hY⟩ := hP
  by_cases hq0 : x = -1
  · rw [rfo_n hq0] at hl
    by_cases hq1 : y = -1
    · rw [rfo_n hq1] at hl
      refine lv_aload_nN hx hb dX10_areSiblings_0 rfl (lv_at hl 0 rfl) ?_
      refine lv_ifnullN (tgt := 25) hx hb dX10_areSiblings_1 (by decide) ?_
      refine lv_iconst (v := 0) hx hb dX10_areSiblings_25 (by decide) ?_
      exact cr_rz hx hb hr hlocks (by simp only [c_shP, decide_eq_true hq0, decide_eq_true hq1, Bool.not_true, Bool.not_false, Bool.and_true, Bool.true_and, Bool.and_false, Bool.false_and, Bool.or_true, Bool.true_or, Bool.or_false, Bool.false_or, Bool.and_self, Bool.or_self, eq_self, if_true, Bool.false_eq_true, if_false] <;> rfl) (rfl) dX10_areSiblings_26
    · rw [rfo_s hq1] at hl
      refine lv_aload_nN hx hb dX10_areSiblings_0 rfl (lv_at hl 0 rfl) ?_
      refine lv_ifnullN (tgt := 25) hx hb dX10_areSiblings_1 (by decide) ?_
      refine lv_iconst (v := 0) hx hb dX10_areSiblings_25 (by decide) ?_
      exact cr_rz hx hb hr hlocks (by simp only [c_shP, decide_eq_true hq0, decide_eq_false hq1, Bool.not_true, Bool.not_false, Bool.and_true, Bool.true_and, Bool.and_false, Bool.false_and, Bool.or_true, Bool.true_or, Bool.or_false, Bool.false_or, Bool.and_self, Bool.or_self, eq_self, if_true, Bool.false_eq_true, if_false] <;> rfl) (rfl) dX10_areSiblings_26
  · rw [rfo_s hq0] at hl
    by_cases hq1 : y = -1
    · rw [rfo_n hq1] at hl
      refine lv_aload_n hx hb dX10_areSiblings_0 rfl (lv_at hl 0 rfl) ?_
      refine lv_ifnull hx hb dX10_areSiblings_1 ?_
      refine lv_aload_nN hx hb dX10_areSiblings_4 rfl (lv_at hl 1 rfl) ?_
      refine lv_ifnullN (tgt := 25) hx hb dX10_areSiblings_5 (by decide) ?_
      refine lv_iconst (v := 0) hx hb dX10_areSiblings_25 (by decide) ?_
      exact cr_rz hx hb hr hlocks (by simp only [c_shP, decide_eq_false hq0, decide_eq_true hq1, Bool.not_true, Bool.not_false, Bool.and_true, Bool.true_and, Bool.and_false, Bool.false_and, Bool.or_true, Bool.true_or, Bool.or_false, Bool.false_or, Bool.and_self, Bool.or_self, eq_self, if_true, Bool.false_eq_true, if_false] <;> rfl) (rfl) dX10_areSiblings_26
    · rw [rfo_s hq1] at hl
      refine lv_aload_n hx hb dX10_areSiblings_0 rfl (lv_at hl 0 rfl) ?_
      refine lv_ifnull hx hb dX10_areSiblings_1 ?_
      refine lv_aload_n hx hb dX10_areSiblings_4 rfl (lv_at hl 1 rfl) ?_
      refine lv_ifnull hx hb dX10_areSiblings_5 ?_
      refine lv_aload_n hx hb dX10_areSiblings_8 rfl (lv_at hl 0 rfl) ?_
      refine lv_aload_n hx hb dX10_areSiblings_9 rfl (lv_at hl 1 rfl) ?_
      refine ac_eq (x := x) (y := y) (tgt := 25) hx hb (per_inj hC (okPN_of hX hq0) (okPN_of hY hq1)) (fun z => by rw [z]) dX10_areSiblings_10 (by decide) (fun c1 => ?_) (fun c1 => ?_)
      · refine lv_iconst (v := 0) hx hb dX10_areSiblings_25 (by decide) ?_
        exact cr_rz hx hb hr hlocks (by simp only [c_shP, decide_eq_false hq0, decide_eq_false hq1, decide_eq_true c1, Bool.not_true, Bool.not_false, Bool.and_true, Bool.true_and, Bool.and_false, Bool.false_and, Bool.or_true, Bool.true_or, Bool.or_false, Bool.false_or, Bool.and_self, Bool.or_self, eq_self, if_true, Bool.false_eq_true, if_false] <;> rfl) (rfl) dX10_areSiblings_26
      · refine lv_aload_n hx hb dX10_areSiblings_13 rfl (lv_at hl 0 rfl) ?_
        refine lv_aload_n hx hb dX10_areSiblings_14 rfl (lv_at hl 1 rfl) ?_
        refine cr_V (As := [.ref (L 21 y.toNatClampNeg)]) (rest := []) hx hb hml hown hu hE (x_shares l E A σ L x y) kX9_sharesParentWith u383 (cd_per hC (okP_lt (okPN_of hX hq0))) rfl rfl (⟨hC, hI, (okPN_of hX hq0), (okPN_of hY hq1)⟩) ⟨Nat.le_of_ble_eq_true rfl, Nat.le_of_ble_eq_true rfl⟩ rfl hl.1 rfl (Nat.le_of_ble_eq_true rfl) ⟨Nat.le_of_ble_eq_true rfl, Nat.le_of_ble_eq_true rfl⟩ dX10_areSiblings_15 ?_
        refine onB (fun b2 => ?_) (fun b2 => ?_)
        · refine lv_if_eq (tgt := 25) hx hb dX10_areSiblings_18 (by decide) (fun c3 => absurd c3 (by decide)) (fun _ => ?_)
          refine lv_iconst (v := 1) hx hb dX10_areSiblings_21 (by decide) ?_
          refine lv_goto (tgt := 26) hx hb dX10_areSiblings_22 (by decide) ?_
          exact cr_rz hx hb hr hlocks (by simp only [c_shP, decide_eq_false hq0, decide_eq_false hq1, decide_eq_false c1, b2, Bool.not_true, Bool.not_false, Bool.and_true, Bool.true_and, Bool.and_false, Bool.false_and, Bool.or_true, Bool.true_or, Bool.or_false, Bool.false_or, Bool.and_self, Bool.or_self, eq_self, if_true, Bool.false_eq_true, if_false] <;> rfl) (rfl) dX10_areSiblings_26
        · refine lv_if_eq (tgt := 25) hx hb dX10_areSiblings_18 (by decide) (fun _ => ?_) (fun c4 => absurd (by decide) c4)
          refine lv_iconst (v := 0) hx hb dX10_areSiblings_25 (by decide) ?_
          exact cr_rz hx hb hr hlocks (by simp only [c_shP, decide_eq_false hq0, decide_eq_false hq1, decide_eq_false c1, b2, Bool.not_true, Bool.not_false, Bool.and_true, Bool.true_and, Bool.and_false, Bool.false_and, Bool.or_true, Bool.true_or, Bool.or_false, Bool.false_or, Bool.and_self, Bool.or_self, eq_self, if_true, Bool.false_eq_true, if_false] <;> rfl) (rfl) dX10_areSiblings_26
set_option maxHeartbeats 1000000 in
set_option maxRecDepth 20000 in
theorem x_cous (l : Launch) (E : EV) (A : Nat → Prop) (σ : St) (L : Nat → Nat → Nat) (x y : Int32) : Cr l E yX10_isCousinBy cX10_isCousinBy 2 (some .boolean) 2 42 [va_rf (rfo L x), .ref (L 21 y.toNatClampNeg)] (fun H => Cd E A σ L H ∧ InvM σ ∧ okPN σ x ∧ okP σ y) (some (.int (bI (c_cous σ x y)))) := by
  refine Cr.of (by decide +kernel) (by cases rfo L x <;> exact Nat.le_of_ble_eq_true rfl) (fun pg ev s mi bel mth cd hx hb hr hml hown hu hlocks hE hP ls hl => ?_)
  have hl : lv_has ls 2 [(0, va_rf (rfo L x)), (1, .ref (L 21 y.toNatClampNeg))] := by (revert hl; cases rfo L x <;> exact id)
  obtain ⟨hC, hI, hX, hY⟩ := hP
  refine ld_qn hx hb dX10_isCousinBy_0 rfl (lv_at hl 0 rfl) ?_
  refine lv_aload_n hx hb dX10_isCousinBy_1 rfl (lv_at hl 1 rfl) ?_
  refine rd_get (k := 5) (v := va_rf (rfo L (gA σ 6 y))) hx hb hown hu hE ok10 (cd_per hC (okP_lt hY)) (by decide) u309 (fun _ h => h) rfl dX10_isCousinBy_2 ?_
  refine cr_S (As := [va_rf (rfo L x), va_rf (rfo L (gA σ 6 y))]) (rest := []) hx hb hml hown hu hE (x_shP l E A σ L x (gA σ 6 y)) kX10_areSiblings u396 (⟨hC, hI, hX, fa_ok hI hY⟩) ⟨Nat.le_of_ble_eq_true rfl, Nat.le_of_ble_eq_true rfl⟩ rfl hl.1 rfl (Nat.le_of_ble_eq_true rfl) ⟨Nat.le_of_ble_eq_true rfl, Nat.le_of_ble_eq_true rfl⟩ dX10_isCousinBy_5 ?_
  refine onB (fun b1 => ?_) (fun b1 => ?_)
  · refine lv_if_ne (tgt := 22) hx hb dX10_isCousinBy_8 (by decide) (fun _ => ?_) (fun c2 => absurd c2 (by decide))
    refine lv_iconst (v := 1) hx hb dX10_isCousinBy_22 (by decide) ?_
    refine lv_goto (tgt := 27) hx hb dX10_isCousinBy_23 (by decide) ?_
    exact cr_rz hx hb hr hlocks (by simp only [c_cous, b1, Bool.not_true, Bool.not_false, Bool.and_true, Bool.true_and, Bool.and_false, Bool.false_and, Bool.or_true, Bool.true_or, Bool.or_false, Bool.false_or, Bool.and_self, Bool.or_self, eq_self, if_true, Bool.false_eq_true, if_false] <;> rfl) (rfl) dX10_isCousinBy_27
  · refine lv_if_ne (tgt := 22) hx hb dX10_isCousinBy_8 (by decide) (fun c3 => absurd c3 (by decide)) (fun _ => ?_)
    refine ld_qn hx hb dX10_isCousinBy_11 rfl (lv_at hl 0 rfl) ?_
    refine lv_aload_n hx hb dX10_isCousinBy_12 rfl (lv_at hl 1 rfl) ?_
    refine rd_get (k := 6) (v := va_rf (rfo L (gA σ 7 y))) hx hb hown hu hE ok10 (cd_per hC (okP_lt hY)) (by decide) u311 (fun _ h => h) rfl dX10_isCousinBy_13 ?_
    refine cr_S (As := [va_rf (rfo L x), va_rf (rfo L (gA σ 7 y))]) (rest := []) hx hb hml hown hu hE (x_shP l E A σ L x (gA σ 7 y)) kX10_areSiblings u396 (⟨hC, hI, hX, mo_ok hI hY⟩) ⟨Nat.le_of_ble_eq_true rfl, Nat.le_of_ble_eq_true rfl⟩ rfl hl.1 rfl (Nat.le_of_ble_eq_true rfl) ⟨Nat.le_of_ble_eq_true rfl, Nat.le_of_ble_eq_true rfl⟩ dX10_isCousinBy_16 ?_
    refine onB (fun b4 => ?_) (fun b4 => ?_)
    · refine lv_if_eq (tgt := 26) hx hb dX10_isCousinBy_19 (by decide) (fun c5 => absurd c5 (by decide)) (fun _ => ?_)
      refine lv_iconst (v := 1) hx hb dX10_isCousinBy_22 (by decide) ?_
      refine lv_goto (tgt := 27) hx hb dX10_isCousinBy_23 (by decide) ?_
      exact cr_rz hx hb hr hlocks (by simp only [c_cous, b1, b4, Bool.not_true, Bool.not_false, Bool.and_true, Bool.true_and, Bool.and_false, Bool.false_and, Bool.or_true, Bool.true_or, Bool.or_false, Bool.false_or, Bool.and_self, Bool.or_self, eq_self, if_true, Bool.false_eq_true, if_false] <;> rfl) (rfl) dX10_isCousinBy_27
    · refine lv_if_eq (tgt := 26) hx hb dX10_isCousinBy_19 (by decide) (fun _ => ?_) (fun c6 => absurd (by decide) c6)
      refine lv_iconst (v := 0) hx hb dX10_isCousinBy_26 (by decide) ?_
      exact cr_rz hx hb hr hlocks (by simp only [c_cous, b1, b4, Bool.not_true, Bool.not_false, Bool.and_true, Bool.true_and, Bool.and_false, Bool.false_and, Bool.or_true, Bool.true_or, Bool.or_false, Bool.false_or, Bool.and_self, Bool.or_self, eq_self, if_true, Bool.false_eq_true, if_false] <;> rfl) (rfl) dX10_isCousinBy_27
set_option maxHeartbeats 1000000 in
set_option maxRecDepth 20000 in
theorem x_kinOf (l : Launch) (E : EV) (A : Nat → Prop) (σ : St) (L : Nat → Nat → Nat) (a b : Int32) : Cr l E yX10_kinOf cX10_kinOf 2 (some .int) 3 63 [.ref (L 21 a.toNatClampNeg), .ref (L 21 b.toNatClampNeg)] (fun H => Cd E A σ L H ∧ InvM σ ∧ okP σ a ∧ okP σ b) (some (.int (k_kinOf σ a b))) := by
  refine Cr.of (by decide +kernel) (Nat.le_of_ble_eq_true rfl) (fun pg ev s mi bel mth cd hx hb hr hml hown hu hlocks hE hP ls hl => ?_)
  have hl : lv_has ls 2 [(0, .ref (L 21 a.toNatClampNeg)), (1, .ref (L 21 b.toNatClampNeg))] := hl
  obtain ⟨hC, hI, hX, hY⟩ := hP
  refine lv_aload_n hx hb dX10_kinOf_0 rfl (lv_at hl 0 rfl) ?_
  refine lv_aload_n hx hb dX10_kinOf_1 rfl (lv_at hl 1 rfl) ?_
  refine cr_V (As := [.ref (L 21 b.toNatClampNeg)]) (rest := []) hx hb hml hown hu hE (x_child l E A σ L a b) kX9_isChildOf u379 (cd_per hC (okP_lt hX)) rfl rfl (⟨hC, hI, hX, hY⟩) ⟨Nat.le_of_ble_eq_true rfl, Nat.le_of_ble_eq_true rfl⟩ rfl hl.1 rfl (Nat.le_of_ble_eq_true rfl) ⟨Nat.le_of_ble_eq_true rfl, Nat.le_of_ble_eq_true rfl⟩ dX10_kinOf_2 ?_
  refine onB (fun b1 => ?_) (fun b1 => ?_)
  · refine lv_if_ne (tgt := 24) hx hb dX10_kinOf_5 (by decide) (fun _ => ?_) (fun c2 => absurd c2 (by decide))
    refine lv_iconst (v := 1) hx hb dX10_kinOf_24 (by decide) ?_
    exact cr_ri hx hb hr hlocks (by simp only [k_kinOf, b1, Bool.not_true, Bool.not_false, Bool.and_true, Bool.true_and, Bool.and_false, Bool.false_and, Bool.or_true, Bool.true_or, Bool.or_false, Bool.false_or, Bool.and_self, Bool.or_self, eq_self, if_true, Bool.false_eq_true, if_false]) dX10_kinOf_25
  · refine lv_if_ne (tgt := 24) hx hb dX10_kinOf_5 (by decide) (fun c3 => absurd c3 (by decide)) (fun _ => ?_)
    refine lv_aload_n hx hb dX10_kinOf_8 rfl (lv_at hl 1 rfl) ?_
    refine lv_aload_n hx hb dX10_kinOf_9 rfl (lv_at hl 0 rfl) ?_
    refine cr_V (As := [.ref (L 21 a.toNatClampNeg)]) (rest := []) hx hb hml hown hu hE (x_child l E A σ L b a) kX9_isChildOf u379 (cd_per hC (okP_lt hY)) rfl rfl (⟨hC, hI, hY, hX⟩) ⟨Nat.le_of_ble_eq_true rfl, Nat.le_of_ble_eq_true rfl⟩ rfl hl.1 rfl (Nat.le_of_ble_eq_true rfl) ⟨Nat.le_of_ble_eq_true rfl, Nat.le_of_ble_eq_true rfl⟩ dX10_kinOf_10 ?_
    refine onB (fun b4 => ?_) (fun b4 => ?_)
    · refine lv_if_ne (tgt := 24) hx hb dX10_kinOf_13 (by decide) (fun _ => ?_) (fun c5 => absurd c5 (by decide))
      refine lv_iconst (v := 1) hx hb dX10_kinOf_24 (by decide) ?_
      exact cr_ri hx hb hr hlocks (by simp only [k_kinOf, b1, b4, Bool.not_true, Bool.not_false, Bool.and_true, Bool.true_and, Bool.and_false, Bool.false_and, Bool.or_true, Bool.true_or, Bool.or_false, Bool.false_or, Bool.and_self, Bool.or_self, eq_self, if_true, Bool.false_eq_true, if_false]) dX10_kinOf_25
    · refine lv_if_ne (tgt := 24) hx hb dX10_kinOf_13 (by decide) (fun c6 => absurd c6 (by decide)) (fun _ => ?_)
      refine lv_aload_n hx hb dX10_kinOf_16 rfl (lv_at hl 0 rfl) ?_
      refine lv_aload_n hx hb dX10_kinOf_17 rfl (lv_at hl 1 rfl) ?_
      refine cr_V (As := [.ref (L 21 b.toNatClampNeg)]) (rest := []) hx hb hml hown hu hE (x_shares l E A σ L a b) kX9_sharesParentWith u383 (cd_per hC (okP_lt hX)) rfl rfl (⟨hC, hI, hX, hY⟩) ⟨Nat.le_of_ble_eq_true rfl, Nat.le_of_ble_eq_true rfl⟩ rfl hl.1 rfl (Nat.le_of_ble_eq_true rfl) ⟨Nat.le_of_ble_eq_true rfl, Nat.le_of_ble_eq_true rfl⟩ dX10_kinOf_18 ?_
      refine onB (fun b7 => ?_) (fun b7 => ?_)
      · refine lv_if_eq (tgt := 26) hx hb dX10_kinOf_21 (by decide) (fun c8 => absurd c8 (by decide)) (fun _ => ?_)
        refine lv_iconst (v := 1) hx hb dX10_kinOf_24 (by decide) ?_
        exact cr_ri hx hb hr hlocks (by simp only [k_kinOf, b1, b4, b7, Bool.not_true, Bool.not_false, Bool.and_true, Bool.true_and, Bool.and_false, Bool.false_and, Bool.or_true, Bool.true_or, Bool.or_false, Bool.false_or, Bool.and_self, Bool.or_self, eq_self, if_true, Bool.false_eq_true, if_false]) dX10_kinOf_25
      · refine lv_if_eq (tgt := 26) hx hb dX10_kinOf_21 (by decide) (fun _ => ?_) (fun c9 => absurd (by decide) c9)
        refine lv_aload_n hx hb dX10_kinOf_26 rfl (lv_at hl 0 rfl) ?_
        refine lv_aload_n hx hb dX10_kinOf_27 rfl (lv_at hl 1 rfl) ?_
        refine cr_S (As := [.ref (L 21 a.toNatClampNeg), .ref (L 21 b.toNatClampNeg)]) (rest := []) hx hb hml hown hu hE (x_near l E A σ L a b) kX10_isNearByParent u387 (⟨hC, hI, hX, hY⟩) ⟨Nat.le_of_ble_eq_true rfl, Nat.le_of_ble_eq_true rfl⟩ rfl hl.1 rfl (Nat.le_of_ble_eq_true rfl) ⟨Nat.le_of_ble_eq_true rfl, Nat.le_of_ble_eq_true rfl⟩ dX10_kinOf_28 ?_
        refine onB (fun b10 => ?_) (fun b10 => ?_)
        · refine lv_if_ne (tgt := 42) hx hb dX10_kinOf_31 (by decide) (fun _ => ?_) (fun c11 => absurd c11 (by decide))
          refine lv_iconst (v := 2) hx hb dX10_kinOf_42 (by decide) ?_
          exact cr_ri hx hb hr hlocks (by simp only [k_kinOf, b1, b4, b7, b10, Bool.not_true, Bool.not_false, Bool.and_true, Bool.true_and, Bool.and_false, Bool.false_and, Bool.or_true, Bool.true_or, Bool.or_false, Bool.false_or, Bool.and_self, Bool.or_self, eq_self, if_true, Bool.false_eq_true, if_false]) dX10_kinOf_43
        · refine lv_if_ne (tgt := 42) hx hb dX10_kinOf_31 (by decide) (fun c12 => absurd c12 (by decide)) (fun _ => ?_)
          refine lv_aload_n hx hb dX10_kinOf_34 rfl (lv_at hl 1 rfl) ?_
          refine lv_aload_n hx hb dX10_kinOf_35 rfl (lv_at hl 0 rfl) ?_
          refine cr_S (As := [.ref (L 21 b.toNatClampNeg), .ref (L 21 a.toNatClampNeg)]) (rest := []) hx hb hml hown hu hE (x_near l E A σ L b a) kX10_isNearByParent u387 (⟨hC, hI, hY, hX⟩) ⟨Nat.le_of_ble_eq_true rfl, Nat.le_of_ble_eq_true rfl⟩ rfl hl.1 rfl (Nat.le_of_ble_eq_true rfl) ⟨Nat.le_of_ble_eq_true rfl, Nat.le_of_ble_eq_true rfl⟩ dX10_kinOf_36 ?_
          refine onB (fun b13 => ?_) (fun b13 => ?_)
          · refine lv_if_eq (tgt := 44) hx hb dX10_kinOf_39 (by decide) (fun c14 => absurd c14 (by decide)) (fun _ => ?_)
            refine lv_iconst (v := 2) hx hb dX10_kinOf_42 (by decide) ?_
            exact cr_ri hx hb hr hlocks (by simp only [k_kinOf, b1, b4, b7, b10, b13, Bool.not_true, Bool.not_false, Bool.and_true, Bool.true_and, Bool.and_false, Bool.false_and, Bool.or_true, Bool.true_or, Bool.or_false, Bool.false_or, Bool.and_self, Bool.or_self, eq_self, if_true, Bool.false_eq_true, if_false]) dX10_kinOf_43
          · refine lv_if_eq (tgt := 44) hx hb dX10_kinOf_39 (by decide) (fun _ => ?_) (fun c15 => absurd (by decide) c15)
            refine lv_aload_n hx hb dX10_kinOf_44 rfl (lv_at hl 0 rfl) ?_
            refine rd_get (k := 5) (v := va_rf (rfo L (gA σ 6 a))) hx hb hown hu hE ok10 (cd_per hC (okP_lt hX)) (by decide) u309 (fun _ h => h) rfl dX10_kinOf_45 ?_
            refine lv_aload_n hx hb dX10_kinOf_48 rfl (lv_at hl 1 rfl) ?_
            refine cr_S (As := [va_rf (rfo L (gA σ 6 a)), .ref (L 21 b.toNatClampNeg)]) (rest := []) hx hb hml hown hu hE (x_cous l E A σ L (gA σ 6 a) b) kX10_isCousinBy u393 (⟨hC, hI, fa_ok hI hX, hY⟩) ⟨Nat.le_of_ble_eq_true rfl, Nat.le_of_ble_eq_true rfl⟩ rfl hl.1 rfl (Nat.le_of_ble_eq_true rfl) ⟨Nat.le_of_ble_eq_true rfl, Nat.le_of_ble_eq_true rfl⟩ dX10_kinOf_49 ?_
            refine onB (fun b16 => ?_) (fun b16 => ?_)
            · refine lv_if_ne (tgt := 66) hx hb dX10_kinOf_52 (by decide) (fun _ => ?_) (fun c17 => absurd c17 (by decide))
              refine lv_iconst (v := 3) hx hb dX10_kinOf_66 (by decide) ?_
              exact cr_ri hx hb hr hlocks (by simp only [k_kinOf, b1, b4, b7, b10, b13, b16, Bool.not_true, Bool.not_false, Bool.and_true, Bool.true_and, Bool.and_false, Bool.false_and, Bool.or_true, Bool.true_or, Bool.or_false, Bool.false_or, Bool.and_self, Bool.or_self, eq_self, if_true, Bool.false_eq_true, if_false]) dX10_kinOf_67
            · refine lv_if_ne (tgt := 66) hx hb dX10_kinOf_52 (by decide) (fun c18 => absurd c18 (by decide)) (fun _ => ?_)
              refine lv_aload_n hx hb dX10_kinOf_55 rfl (lv_at hl 0 rfl) ?_
              refine rd_get (k := 6) (v := va_rf (rfo L (gA σ 7 a))) hx hb hown hu hE ok10 (cd_per hC (okP_lt hX)) (by decide) u311 (fun _ h => h) rfl dX10_kinOf_56 ?_
              refine lv_aload_n hx hb dX10_kinOf_59 rfl (lv_at hl 1 rfl) ?_
              refine cr_S (As := [va_rf (rfo L (gA σ 7 a)), .ref (L 21 b.toNatClampNeg)]) (rest := []) hx hb hml hown hu hE (x_cous l E A σ L (gA σ 7 a) b) kX10_isCousinBy u393 (⟨hC, hI, mo_ok hI hX, hY⟩) ⟨Nat.le_of_ble_eq_true rfl, Nat.le_of_ble_eq_true rfl⟩ rfl hl.1 rfl (Nat.le_of_ble_eq_true rfl) ⟨Nat.le_of_ble_eq_true rfl, Nat.le_of_ble_eq_true rfl⟩ dX10_kinOf_60 ?_
              refine onB (fun b19 => ?_) (fun b19 => ?_)
              · refine lv_if_eq (tgt := 68) hx hb dX10_kinOf_63 (by decide) (fun c20 => absurd c20 (by decide)) (fun _ => ?_)
                refine lv_iconst (v := 3) hx hb dX10_kinOf_66 (by decide) ?_
                exact cr_ri hx hb hr hlocks (by simp only [k_kinOf, b1, b4, b7, b10, b13, b16, b19, Bool.not_true, Bool.not_false, Bool.and_true, Bool.true_and, Bool.and_false, Bool.false_and, Bool.or_true, Bool.true_or, Bool.or_false, Bool.false_or, Bool.and_self, Bool.or_self, eq_self, if_true, Bool.false_eq_true, if_false]) dX10_kinOf_67
              · refine lv_if_eq (tgt := 68) hx hb dX10_kinOf_63 (by decide) (fun _ => ?_) (fun c21 => absurd (by decide) c21)
                refine lv_iconst (v := 0) hx hb dX10_kinOf_68 (by decide) ?_
                exact cr_ri hx hb hr hlocks (by simp only [k_kinOf, b1, b4, b7, b10, b13, b16, b19, Bool.not_true, Bool.not_false, Bool.and_true, Bool.true_and, Bool.and_false, Bool.false_and, Bool.or_true, Bool.true_or, Bool.or_false, Bool.false_or, Bool.and_self, Bool.or_self, eq_self, if_true, Bool.false_eq_true, if_false]) dX10_kinOf_69
set_option maxHeartbeats 1000000 in
set_option maxRecDepth 20000 in
theorem x_inF (l : Launch) (E : EV) (A : Nat → Prop) (σ : St) (L : Nat → Nat → Nat) (ld dy : Int32) : Cr l E yX5_inForce cX5_inForce 6 (some (.object "WeddingRegister$Law")) 3 64 [.ref (L 4 0), .int ld, .int dy] (fun H => Cd E A σ L H ∧ InvM σ ∧ InvL σ) (some (.ref (lawA L (m_best σ ld dy)))) := by
  refine Cr.of (by decide +kernel) (Nat.le_of_ble_eq_true rfl) (fun pg ev s mi bel mth cd hx hb hr hml hown hu hlocks hE hP ls hl => ?_)
  have hl : lv_has ls 6 [(0, .ref (L 4 0)), (1, .int ld), (2, .int dy)] := hl
  obtain ⟨hC, hI, hL⟩ := hP
  have hn := cnt_le (N := 60) hI.1.2.1
  have hc := cnt_nI hI.1.2.1
  obtain ⟨T, hT⟩ : ∃ z, z = m_best σ ld dy := ⟨_, rfl⟩
  have lo : ∀ (f k : Nat) (b : Int32), (k + f = nn σ 2) → (m_ifL σ ld dy f k b = T) → (b = -1 ∨ okL σ b) → ∀ (ls : Array Slot), lv_has ls 6 [(0, .ref (L 4 0)), (1, .int ld), (2, .int dy), (3, .ref (lawA L b)), (4, .int (nI k))] → W pg l ev { frames := 3, cells := 0, slots := 0, locals := 64 } s mi [.ref (L 4 0), .int ld, .int dy].toArray bel mth cd s.heap [] 0 0 (QR bel s [.ref (L 4 0), .int ld, .int dy].toArray (some (.ref (lawA L (m_best σ ld dy))))) (F0 mi 8 ls []) := by
    intro f
    induction f with
    | zero =>
      intro k b hk hi hb2 ls hl
      refine lv_iload hx hb dX5_inForce_8 (lv_at hl 4 rfl) ?_
      refine lv_aload_n hx hb dX5_inForce_10 rfl (lv_at hl 0 rfl) ?_
      refine rd_get (k := 0) (v := .ref (L 9 0)) hx hb hown hu hE ok6 (cd_lb hC) (by decide) u115 (fun _ h => h) rfl dX5_inForce_11 ?_
      refine cr_V (As := []) (rest := [.int (nI k)]) hx hb hml hown hu hE (c_LS0 l E A σ L) kJx4a65c_size_8abf5 u188 ((cd_lex hC (j := 0) (by omega)).choose_spec) rfl rfl (⟨hC, hI⟩) ⟨Nat.le_of_ble_eq_true rfl, Nat.le_of_ble_eq_true rfl⟩ rfl hl.1 rfl (Nat.le_of_ble_eq_true rfl) ⟨Nat.le_of_ble_eq_true rfl, Nat.le_of_ble_eq_true rfl⟩ dX5_inForce_14 ?_
      refine lv_icmp_ge (tgt := 73) hx hb dX5_inForce_17 (by decide) (fun c1 => ?_) (fun c1 => absurd (by rw [hc]; exact nI_le (by omega) (by omega)) c1)
      refine lv_aload_n hx hb dX5_inForce_73 rfl (lv_at hl 3 rfl) ?_
      exact cr_ra hx hb hr (Or.inl ⟨_, rfl⟩) (Or.inr ⟨_, rfl⟩) hlocks (by simp only [m_ifL] at hi; rw [← hT, ← hi]) dX5_inForce_74
    | succ f ih =>
      intro k b hk hi hb2 ls hl
      refine lv_iload hx hb dX5_inForce_8 (lv_at hl 4 rfl) ?_
      refine lv_aload_n hx hb dX5_inForce_10 rfl (lv_at hl 0 rfl) ?_
      refine rd_get (k := 0) (v := .ref (L 9 0)) hx hb hown hu hE ok6 (cd_lb hC) (by decide) u115 (fun _ h => h) rfl dX5_inForce_11 ?_
      refine cr_V (As := []) (rest := [.int (nI k)]) hx hb hml hown hu hE (c_LS0 l E A σ L) kJx4a65c_size_8abf5 u188 ((cd_lex hC (j := 0) (by omega)).choose_spec) rfl rfl (⟨hC, hI⟩) ⟨Nat.le_of_ble_eq_true rfl, Nat.le_of_ble_eq_true rfl⟩ rfl hl.1 rfl (Nat.le_of_ble_eq_true rfl) ⟨Nat.le_of_ble_eq_true rfl, Nat.le_of_ble_eq_true rfl⟩ dX5_inForce_14 ?_
      refine lv_icmp_ge (tgt := 73) hx hb dX5_inForce_17 (by decide) (fun c2 => absurd c2 (by rw [hc]; exact nI_ge (by omega) (by omega))) (fun c2 => ?_)
      refine lv_aload_n hx hb dX5_inForce_20 rfl (lv_at hl 0 rfl) ?_
      refine rd_get (k := 0) (v := .ref (L 9 0)) hx hb hown hu hE ok6 (cd_lb hC) (by decide) u115 (fun _ h => h) rfl dX5_inForce_21 ?_
      refine lv_iload hx hb dX5_inForce_24 (lv_at hl 4 rfl) ?_
      refine cr_V (As := [.int (nI k)]) (rest := []) hx hb hml hown hu hE (c_LG0 l E A σ L (nI k)) kJx4a65c_get_915e3 u411 ((cd_lex hC (j := 0) (by omega)).choose_spec) rfl rfl (⟨hC, ok_nI hI.1.2.1 (by omega)⟩) ⟨Nat.le_of_ble_eq_true rfl, Nat.le_of_ble_eq_true rfl⟩ rfl hl.1 rfl (Nat.le_of_ble_eq_true rfl) ⟨Nat.le_of_ble_eq_true rfl, Nat.le_of_ble_eq_true rfl⟩ dX5_inForce_26 ?_
      refine cl_cast hx hb hown hu hE ok5 u75 (cd_law hC (ok_lt (t := 2) (ok_nI hI.1.2.1 (by omega)))) dX5_inForce_29 ?_
      refine lv_astore (lv' := [(5, .ref (L 20 (nI k).toNatClampNeg)), (0, .ref (L 4 0)), (1, .int ld), (2, .int dy), (3, .ref (lawA L b)), (4, .int (nI k))]) hx hb dX5_inForce_32 hl (by decide) rfl (fun ls hl => ?_)
      refine lv_aload hx hb dX5_inForce_34 (lv_at hl 0 rfl) ?_
      refine rd_get (k := 0) (v := .int (gR σ 100 (nI k) 0)) hx hb hown hu hE ok5 (cd_law hC (ok_lt (t := 2) (ok_nI hI.1.2.1 (by omega)))) (by decide) u84 (fun _ h => h) rfl dX5_inForce_36 ?_
      refine lv_iload_n hx hb dX5_inForce_39 rfl (lv_at hl 2 rfl) ?_
      refine lv_icmp_ne (tgt := 67) hx hb dX5_inForce_40 (by decide) (fun c3 => ?_) (fun c3 => ?_)
      · refine lv_iinc (v := nI (k + 1)) (lv' := [(4, .int (nI (k + 1))), (5, .ref (L 20 (nI k).toNatClampNeg)), (0, .ref (L 4 0)), (1, .int ld), (2, .int dy), (3, .ref (lawA L b))]) hx hb dX5_inForce_67 hl (k := 5) rfl (nI_1 k) (by decide) rfl (fun ls hl => ?_)
        refine lv_goto (tgt := 8) hx hb dX5_inForce_70 (by decide) ?_
        exact ih (k + 1) _ (by omega) (by simp only [m_ifL] at hi; rw [← ifC_eq hI hL (by omega)] at hi; simp only [c_ifC, decide_eq_false c3, Bool.not_true, Bool.not_false, Bool.and_true, Bool.true_and, Bool.and_false, Bool.false_and, Bool.or_true, Bool.true_or, Bool.or_false, Bool.false_or, Bool.and_self, Bool.or_self, eq_self, if_true, Bool.false_eq_true, if_false] at hi; exact hi) hb2 _ (lv_sub hl [2, 3, 4, 5, 0] rfl)
      · refine lv_aload hx hb dX5_inForce_43 (lv_at hl 0 rfl) ?_
        refine rd_get (k := 1) (v := .int (gR σ 100 (nI k) 1)) hx hb hown hu hE ok5 (cd_law hC (ok_lt (t := 2) (ok_nI hI.1.2.1 (by omega)))) (by decide) u86 (fun _ h => h) rfl dX5_inForce_45 ?_
        refine lv_iload_n hx hb dX5_inForce_48 rfl (lv_at hl 3 rfl) ?_
        refine lv_icmp_gt (tgt := 67) hx hb dX5_inForce_49 (by decide) (fun c4 => ?_) (fun c4 => ?_)
        · refine lv_iinc (v := nI (k + 1)) (lv' := [(4, .int (nI (k + 1))), (5, .ref (L 20 (nI k).toNatClampNeg)), (0, .ref (L 4 0)), (1, .int ld), (2, .int dy), (3, .ref (lawA L b))]) hx hb dX5_inForce_67 hl (k := 5) rfl (nI_1 k) (by decide) rfl (fun ls hl => ?_)
          refine lv_goto (tgt := 8) hx hb dX5_inForce_70 (by decide) ?_
          exact ih (k + 1) _ (by omega) (by simp only [m_ifL] at hi; rw [← ifC_eq hI hL (by omega)] at hi; simp only [c_ifC, decide_eq_true c3, decide_eq_true c4, Bool.not_true, Bool.not_false, Bool.and_true, Bool.true_and, Bool.and_false, Bool.false_and, Bool.or_true, Bool.true_or, Bool.or_false, Bool.false_or, Bool.and_self, Bool.or_self, eq_self, if_true, Bool.false_eq_true, if_false] at hi; exact hi) hb2 _ (lv_sub hl [2, 3, 4, 5, 0] rfl)
        · refine lv_aload hx hb dX5_inForce_52 (lv_at hl 0 rfl) ?_
          refine rd_get (k := 1) (v := .int (gR σ 100 (nI k) 1)) hx hb hown hu hE ok5 (cd_law hC (ok_lt (t := 2) (ok_nI hI.1.2.1 (by omega)))) (by decide) u86 (fun _ h => h) rfl dX5_inForce_54 ?_
          refine lv_aload_n hx hb dX5_inForce_57 rfl (lv_at hl 4 rfl) ?_
          refine rd_get (k := 1) (v := .int (lf σ b 1 (-1))) hx hb hown hu hE ok5 (cd_lawA hC hb2) (by decide) u86 (fun _ h => h) rfl dX5_inForce_58 ?_
          refine lv_icmp_lt (tgt := 67) hx hb dX5_inForce_61 (by decide) (fun c5 => ?_) (fun c5 => ?_)
          · refine lv_iinc (v := nI (k + 1)) (lv' := [(4, .int (nI (k + 1))), (5, .ref (L 20 (nI k).toNatClampNeg)), (0, .ref (L 4 0)), (1, .int ld), (2, .int dy), (3, .ref (lawA L b))]) hx hb dX5_inForce_67 hl (k := 5) rfl (nI_1 k) (by decide) rfl (fun ls hl => ?_)
            refine lv_goto (tgt := 8) hx hb dX5_inForce_70 (by decide) ?_
            exact ih (k + 1) _ (by omega) (by simp only [m_ifL] at hi; rw [← ifC_eq hI hL (by omega)] at hi; simp only [c_ifC, decide_eq_true c3, decide_eq_false c4, decide_eq_true c5, Bool.not_true, Bool.not_false, Bool.and_true, Bool.true_and, Bool.and_false, Bool.false_and, Bool.or_true, Bool.true_or, Bool.or_false, Bool.false_or, Bool.and_self, Bool.or_self, eq_self, if_true, Bool.false_eq_true, if_false] at hi; exact hi) hb2 _ (lv_sub hl [2, 3, 4, 5, 0] rfl)
          · refine lv_aload hx hb dX5_inForce_64 (lv_at hl 0 rfl) ?_
            refine lv_astore_n (lv' := [(3, .ref (L 20 (nI k).toNatClampNeg)), (5, .ref (L 20 (nI k).toNatClampNeg)), (0, .ref (L 4 0)), (1, .int ld), (2, .int dy), (4, .int (nI k))]) hx hb dX5_inForce_66 rfl hl (by decide) rfl (fun ls hl => ?_)
            refine lv_iinc (v := nI (k + 1)) (lv' := [(4, .int (nI (k + 1))), (3, .ref (L 20 (nI k).toNatClampNeg)), (5, .ref (L 20 (nI k).toNatClampNeg)), (0, .ref (L 4 0)), (1, .int ld), (2, .int dy)]) hx hb dX5_inForce_67 hl (k := 5) rfl (nI_1 k) (by decide) rfl (fun ls hl => ?_)
            refine lv_goto (tgt := 8) hx hb dX5_inForce_70 (by decide) ?_
            rw [lawA_nI (L := L) (k := k) (by omega)] at hl
            exact ih (k + 1) _ (by omega) (by simp only [m_ifL] at hi; rw [← ifC_eq hI hL (by omega)] at hi; simp only [c_ifC, decide_eq_true c3, decide_eq_false c4, decide_eq_false c5, Bool.not_true, Bool.not_false, Bool.and_true, Bool.true_and, Bool.and_false, Bool.false_and, Bool.or_true, Bool.true_or, Bool.or_false, Bool.false_or, Bool.and_self, Bool.or_self, eq_self, if_true, Bool.false_eq_true, if_false] at hi; exact hi) (Or.inr (ok_nI hI.1.2.1 (by omega))) _ (lv_sub hl [3, 4, 5, 1, 0] rfl)
  refine lv_aload_n hx hb dX5_inForce_0 rfl (lv_at hl 0 rfl) ?_
  refine rd_get (k := 1) (v := .ref (L 5 0)) hx hb hown hu hE ok6 (cd_lb hC) (by decide) u116 (fun _ h => h) rfl dX5_inForce_1 ?_
  refine lv_astore_n (lv' := [(3, .ref (L 5 0)), (0, .ref (L 4 0)), (1, .int ld), (2, .int dy)]) hx hb dX5_inForce_4 rfl hl (by decide) rfl (fun ls hl => ?_)
  refine lv_iconst (v := 0) hx hb dX5_inForce_5 (by decide) ?_
  refine lv_istore (lv' := [(4, .int 0), (3, .ref (L 5 0)), (0, .ref (L 4 0)), (1, .int ld), (2, .int dy)]) hx hb dX5_inForce_6 hl (by decide) rfl (fun ls hl => ?_)
  exact lo (nn σ 2) 0 (-1) (by omega) hT.symm (Or.inl rfl) _ (lv_sub hl [2, 3, 4, 1, 0] rfl)
set_option maxHeartbeats 1000000 in
set_option maxRecDepth 20000 in
theorem x_isFull (l : Launch) (E : EV) (A : Nat → Prop) (σ : St) (L : Nat → Nat → Nat)  : Cr l E yX5_isFull cX5_isFull 1 (some .boolean) 1 20 [.ref (L 4 0)] (fun H => Cd E A σ L H ∧ InvM σ) (some (.int (bI (!decide (σ 2 0 < 60))))) := by
  refine Cr.of (by decide +kernel) (Nat.le_of_ble_eq_true rfl) (fun pg ev s mi bel mth cd hx hb hr hml hown hu hlocks hE hP ls hl => ?_)
  have hl : lv_has ls 1 [(0, .ref (L 4 0))] := hl
  obtain ⟨hC, hI⟩ := hP
  refine lv_aload_n hx hb dX5_isFull_0 rfl (lv_at hl 0 rfl) ?_
  refine rd_get (k := 0) (v := .ref (L 9 0)) hx hb hown hu hE ok6 (cd_lb hC) (by decide) u115 (fun _ h => h) rfl dX5_isFull_1 ?_
  refine cr_V (As := []) (rest := []) hx hb hml hown hu hE (c_LS0 l E A σ L) kJx4a65c_size_8abf5 u188 ((cd_lex hC (j := 0) (by omega)).choose_spec) rfl rfl (⟨hC, hI⟩) ⟨Nat.le_of_ble_eq_true rfl, Nat.le_of_ble_eq_true rfl⟩ rfl hl.1 rfl (Nat.le_of_ble_eq_true rfl) ⟨Nat.le_of_ble_eq_true rfl, Nat.le_of_ble_eq_true rfl⟩ dX5_isFull_4 ?_
  refine lv_bipush (v := 60) hx hb dX5_isFull_7 (by decide) ?_
  refine lv_icmp_lt (tgt := 16) hx hb dX5_isFull_9 (by decide) (fun c1 => ?_) (fun c1 => ?_)
  · refine lv_iconst (v := 0) hx hb dX5_isFull_16 (by decide) ?_
    exact cr_rz hx hb hr hlocks (by simp only [eq_self, decide_eq_true c1, Bool.not_true, Bool.not_false, Bool.and_true, Bool.true_and, Bool.and_false, Bool.false_and, Bool.or_true, Bool.true_or, Bool.or_false, Bool.false_or, Bool.and_self, Bool.or_self, eq_self, if_true, Bool.false_eq_true, if_false] <;> rfl) (rfl) dX5_isFull_17
  · refine lv_iconst (v := 1) hx hb dX5_isFull_12 (by decide) ?_
    refine lv_goto (tgt := 17) hx hb dX5_isFull_13 (by decide) ?_
    exact cr_rz hx hb hr hlocks (by simp only [eq_self, decide_eq_false c1, Bool.not_true, Bool.not_false, Bool.and_true, Bool.true_and, Bool.and_false, Bool.false_and, Bool.or_true, Bool.true_or, Bool.or_false, Bool.false_or, Bool.and_self, Bool.or_self, eq_self, if_true, Bool.false_eq_true, if_false] <;> rfl) (rfl) dX5_isFull_17
set_option maxHeartbeats 1000000 in
set_option maxRecDepth 20000 in
theorem x_wants (l : Launch) (E : EV) (A : Nat → Prop) (σ : St) (L : Nat → Nat → Nat) (ld dy k : Int32) : Cr l E yX4_wantsPaper cX4_wantsPaper 2 (some .boolean) 0 0 [.ref (lawA L (m_best σ ld dy)), .int k] (fun H => Cd E A σ L H ∧ InvM σ) (some (.int (bI (c_wants σ ld dy k)))) := by
  refine Cr.of (by decide +kernel) (Nat.le_of_ble_eq_true rfl) (fun pg ev s mi bel mth cd hx hb hr hml hown hu hlocks hE hP ls hl => ?_)
  have hl : lv_has ls 2 [(0, .ref (lawA L (m_best σ ld dy))), (1, .int k)] := hl
  obtain ⟨hC, hI⟩ := hP
  refine lv_aload_n hx hb dX4_wantsPaper_0 rfl (lv_at hl 0 rfl) ?_
  refine rd_get (k := 4) (v := .int (m_ask σ ld dy 4)) hx hb hown hu hE ok5 (cd_lawR hC hI ld dy) (by decide) u91 (fun _ h => h) rfl dX4_wantsPaper_1 ?_
  refine lv_iload_n hx hb dX4_wantsPaper_4 rfl (lv_at hl 1 rfl) ?_
  refine lv_ishr hx hb dX4_wantsPaper_5 ?_
  refine lv_iconst (v := 1) hx hb dX4_wantsPaper_6 (by decide) ?_
  refine lv_iand hx hb dX4_wantsPaper_7 ?_
  refine lv_if_eq (tgt := 15) hx hb dX4_wantsPaper_8 (by decide) (fun c1 => ?_) (fun c1 => ?_)
  · refine lv_iconst (v := 0) hx hb dX4_wantsPaper_15 (by decide) ?_
    exact cr_rz hx hb hr hlocks (by simp only [c_wants, decide_eq_true c1, Bool.not_true, Bool.not_false, Bool.and_true, Bool.true_and, Bool.and_false, Bool.false_and, Bool.or_true, Bool.true_or, Bool.or_false, Bool.false_or, Bool.and_self, Bool.or_self, eq_self, if_true, Bool.false_eq_true, if_false] <;> rfl) (rfl) dX4_wantsPaper_16
  · refine lv_iconst (v := 1) hx hb dX4_wantsPaper_11 (by decide) ?_
    refine lv_goto (tgt := 16) hx hb dX4_wantsPaper_12 (by decide) ?_
    exact cr_rz hx hb hr hlocks (by simp only [c_wants, decide_eq_false c1, Bool.not_true, Bool.not_false, Bool.and_true, Bool.true_and, Bool.and_false, Bool.false_and, Bool.or_true, Bool.true_or, Bool.or_false, Bool.false_or, Bool.and_self, Bool.or_self, eq_self, if_true, Bool.false_eq_true, if_false] <;> rfl) (rfl) dX4_wantsPaper_16
set_option maxHeartbeats 1000000 in
set_option maxRecDepth 20000 in
theorem x_hasP (l : Launch) (E : EV) (A : Nat → Prop) (σ : St) (L : Nat → Nat → Nat) (x kd dy vl : Int32) : Cr l E yX9_hasPaper cX9_hasPaper 6 (some .boolean) 3 64 [.ref (L 21 x.toNatClampNeg), .int kd, .int dy, .int vl] (fun H => Cd E A σ L H ∧ InvM σ ∧ okP σ x ∧ InvP σ) (some (.int (bI (c_hasP σ x kd dy vl)))) := by
  refine Cr.of (by decide +kernel) (Nat.le_of_ble_eq_true rfl) (fun pg ev s mi bel mth cd hx hb hr hml hown hu hlocks hE hP ls hl => ?_)
  have hl : lv_has ls 6 [(0, .ref (L 21 x.toNatClampNeg)), (1, .int kd), (2, .int dy), (3, .int vl)] := hl
  obtain ⟨hC, hI, hX, hK⟩ := hP
  have hb94 := (hK x hX).1
  have hn := bnd_le (N := 200) hb94
  have hc := bnd_nI hb94
  refine lv_iconst (v := 0) hx hb dX9_hasPaper_0 (by decide) ?_
  refine lv_istore (lv' := [(4, .int 0), (0, .ref (L 21 x.toNatClampNeg)), (1, .int kd), (2, .int dy), (3, .int vl)]) hx hb dX9_hasPaper_1 hl (by decide) rfl (fun ls hl => ?_)
  obtain ⟨T, hT⟩ : ∃ z, z = c_hasP σ x kd dy vl := ⟨_, rfl⟩
  have lo : ∀ (f k : Nat), (k + f = (gA σ 94 x).toNatClampNeg) → (c_hpL σ x kd dy vl f k = T) → ∀ (ls : Array Slot), lv_has ls 6 [(0, .ref (L 21 x.toNatClampNeg)), (1, .int kd), (2, .int dy), (3, .int vl), (4, .int (nI k))] → W pg l ev { frames := 3, cells := 0, slots := 0, locals := 64 } s mi [.ref (L 21 x.toNatClampNeg), .int kd, .int dy, .int vl].toArray bel mth cd s.heap [] 0 0 (QR bel s [.ref (L 21 x.toNatClampNeg), .int kd, .int dy, .int vl].toArray (some (.int (bI (c_hasP σ x kd dy vl))))) (F0 mi 3 ls []) := by
    intro f
    induction f with
    | zero =>
      intro k hk hi ls hl
      refine lv_iload hx hb dX9_hasPaper_3 (lv_at hl 4 rfl) ?_
      refine lv_aload_n hx hb dX9_hasPaper_5 rfl (lv_at hl 0 rfl) ?_
      refine rd_get (k := 7) (v := .ref (L 9 (6 + x.toNatClampNeg))) hx hb hown hu hE ok10 (cd_per hC (okP_lt hX)) (by decide) u312 (fun _ h => h) rfl dX9_hasPaper_6 ?_
      refine cr_V (As := []) (rest := [.int (nI k)]) hx hb hml hown hu hE (c_LSp l E A σ L x) kJx4a65c_size_8abf5 u426 ((cd_lex hC (j := 6 + x.toNatClampNeg) (by have := okP_lt hX; omega)).choose_spec) rfl rfl (⟨hC, hX, hK⟩) ⟨Nat.le_of_ble_eq_true rfl, Nat.le_of_ble_eq_true rfl⟩ rfl hl.1 rfl (Nat.le_of_ble_eq_true rfl) ⟨Nat.le_of_ble_eq_true rfl, Nat.le_of_ble_eq_true rfl⟩ dX9_hasPaper_9 ?_
      refine lv_icmp_ge (tgt := 66) hx hb dX9_hasPaper_12 (by decide) (fun c1 => ?_) (fun c1 => absurd (by rw [hc]; exact nI_le (by omega) (by omega)) c1)
      refine lv_iconst (v := 0) hx hb dX9_hasPaper_66 (by decide) ?_
      exact cr_rz hx hb hr hlocks (by simp only [c_hpL] at hi; rw [← hT, ← hi]; rfl) (rfl) dX9_hasPaper_67
    | succ f ih =>
      intro k hk hi ls hl
      refine lv_iload hx hb dX9_hasPaper_3 (lv_at hl 4 rfl) ?_
      refine lv_aload_n hx hb dX9_hasPaper_5 rfl (lv_at hl 0 rfl) ?_
      refine rd_get (k := 7) (v := .ref (L 9 (6 + x.toNatClampNeg))) hx hb hown hu hE ok10 (cd_per hC (okP_lt hX)) (by decide) u312 (fun _ h => h) rfl dX9_hasPaper_6 ?_
      refine cr_V (As := []) (rest := [.int (nI k)]) hx hb hml hown hu hE (c_LSp l E A σ L x) kJx4a65c_size_8abf5 u426 ((cd_lex hC (j := 6 + x.toNatClampNeg) (by have := okP_lt hX; omega)).choose_spec) rfl rfl (⟨hC, hX, hK⟩) ⟨Nat.le_of_ble_eq_true rfl, Nat.le_of_ble_eq_true rfl⟩ rfl hl.1 rfl (Nat.le_of_ble_eq_true rfl) ⟨Nat.le_of_ble_eq_true rfl, Nat.le_of_ble_eq_true rfl⟩ dX9_hasPaper_9 ?_
      refine lv_icmp_ge (tgt := 66) hx hb dX9_hasPaper_12 (by decide) (fun c2 => absurd c2 (by rw [hc]; exact nI_ge (by omega) (by omega))) (fun c2 => ?_)
      refine lv_aload_n hx hb dX9_hasPaper_15 rfl (lv_at hl 0 rfl) ?_
      refine rd_get (k := 7) (v := .ref (L 9 (6 + x.toNatClampNeg))) hx hb hown hu hE ok10 (cd_per hC (okP_lt hX)) (by decide) u312 (fun _ h => h) rfl dX9_hasPaper_16 ?_
      refine lv_iload hx hb dX9_hasPaper_19 (lv_at hl 4 rfl) ?_
      refine cr_V (As := [.int (nI k)]) (rest := []) hx hb hml hown hu hE (c_LGp l E A σ L x (nI k)) kJx4a65c_get_915e3 u427 ((cd_lex hC (j := 6 + x.toNatClampNeg) (by have := okP_lt hX; omega)).choose_spec) rfl rfl (⟨hC, hX, hK, okQ_nI hb94 (by omega)⟩) ⟨Nat.le_of_ble_eq_true rfl, Nat.le_of_ble_eq_true rfl⟩ rfl hl.1 rfl (Nat.le_of_ble_eq_true rfl) ⟨Nat.le_of_ble_eq_true rfl, Nat.le_of_ble_eq_true rfl⟩ dX9_hasPaper_21 ?_
      refine cl_cast hx hb hown hu hE ok9 u428 (cd_pap hC (ok_lt (t := 15) (pap_ok hK hX (okQ_nI hb94 (by omega))))) dX9_hasPaper_24 ?_
      refine lv_astore (lv' := [(5, .ref (L 26 (gP σ x (nI k)).toNatClampNeg)), (0, .ref (L 21 x.toNatClampNeg)), (1, .int kd), (2, .int dy), (3, .int vl), (4, .int (nI k))]) hx hb dX9_hasPaper_27 hl (by decide) rfl (fun ls hl => ?_)
      refine lv_aload hx hb dX9_hasPaper_29 (lv_at hl 0 rfl) ?_
      refine rd_get (k := 0) (v := .int (gA σ 13 (gP σ x (nI k)))) hx hb hown hu hE ok9 (cd_pap hC (ok_lt (t := 15) (pap_ok hK hX (okQ_nI hb94 (by omega))))) (by decide) u347 (fun _ h => h) rfl dX9_hasPaper_31 ?_
      refine lv_iload_n hx hb dX9_hasPaper_34 rfl (lv_at hl 2 rfl) ?_
      refine lv_icmp_ne (tgt := 60) hx hb dX9_hasPaper_35 (by decide) (fun c3 => ?_) (fun c3 => ?_)
      · refine lv_iinc (v := nI (k + 1)) (lv' := [(4, .int (nI (k + 1))), (5, .ref (L 26 (gP σ x (nI k)).toNatClampNeg)), (0, .ref (L 21 x.toNatClampNeg)), (1, .int kd), (2, .int dy), (3, .int vl)]) hx hb dX9_hasPaper_60 hl (k := 5) rfl (nI_1 k) (by decide) rfl (fun ls hl => ?_)
        refine lv_goto (tgt := 3) hx hb dX9_hasPaper_63 (by decide) ?_
        exact ih (k + 1) (by omega) (by simp only [c_hpL, c_hpC, decide_eq_false c3, Bool.not_true, Bool.not_false, Bool.and_true, Bool.true_and, Bool.and_false, Bool.false_and, Bool.or_true, Bool.true_or, Bool.or_false, Bool.false_or, Bool.and_self, Bool.or_self, eq_self, if_true, Bool.false_eq_true, if_false] at hi; exact hi) _ (lv_sub hl [2, 3, 4, 5, 0] rfl)
      · refine lv_aload hx hb dX9_hasPaper_38 (lv_at hl 0 rfl) ?_
        refine rd_get (k := 1) (v := .int (gA σ 14 (gP σ x (nI k)))) hx hb hown hu hE ok9 (cd_pap hC (ok_lt (t := 15) (pap_ok hK hX (okQ_nI hb94 (by omega))))) (by decide) u349 (fun _ h => h) rfl dX9_hasPaper_40 ?_
        refine lv_iload_n hx hb dX9_hasPaper_43 rfl (lv_at hl 3 rfl) ?_
        refine lv_icmp_gt (tgt := 60) hx hb dX9_hasPaper_44 (by decide) (fun c4 => ?_) (fun c4 => ?_)
        · refine lv_iinc (v := nI (k + 1)) (lv' := [(4, .int (nI (k + 1))), (5, .ref (L 26 (gP σ x (nI k)).toNatClampNeg)), (0, .ref (L 21 x.toNatClampNeg)), (1, .int kd), (2, .int dy), (3, .int vl)]) hx hb dX9_hasPaper_60 hl (k := 5) rfl (nI_1 k) (by decide) rfl (fun ls hl => ?_)
          refine lv_goto (tgt := 3) hx hb dX9_hasPaper_63 (by decide) ?_
          exact ih (k + 1) (by omega) (by simp only [c_hpL, c_hpC, decide_eq_true c3, decide_eq_true c4, Bool.not_true, Bool.not_false, Bool.and_true, Bool.true_and, Bool.and_false, Bool.false_and, Bool.or_true, Bool.true_or, Bool.or_false, Bool.false_or, Bool.and_self, Bool.or_self, eq_self, if_true, Bool.false_eq_true, if_false] at hi; exact hi) _ (lv_sub hl [2, 3, 4, 5, 0] rfl)
        · refine lv_iload_n hx hb dX9_hasPaper_47 rfl (lv_at hl 4 rfl) ?_
          refine lv_iload_n hx hb dX9_hasPaper_48 rfl (lv_at hl 3 rfl) ?_
          refine lv_aload hx hb dX9_hasPaper_49 (lv_at hl 0 rfl) ?_
          refine rd_get (k := 1) (v := .int (gA σ 14 (gP σ x (nI k)))) hx hb hown hu hE ok9 (cd_pap hC (ok_lt (t := 15) (pap_ok hK hX (okQ_nI hb94 (by omega))))) (by decide) u349 (fun _ h => h) rfl dX9_hasPaper_51 ?_
          refine lv_isub hx hb dX9_hasPaper_54 ?_
          refine lv_icmp_le (tgt := 60) hx hb dX9_hasPaper_55 (by decide) (fun c5 => ?_) (fun c5 => ?_)
          · refine lv_iinc (v := nI (k + 1)) (lv' := [(4, .int (nI (k + 1))), (5, .ref (L 26 (gP σ x (nI k)).toNatClampNeg)), (0, .ref (L 21 x.toNatClampNeg)), (1, .int kd), (2, .int dy), (3, .int vl)]) hx hb dX9_hasPaper_60 hl (k := 5) rfl (nI_1 k) (by decide) rfl (fun ls hl => ?_)
            refine lv_goto (tgt := 3) hx hb dX9_hasPaper_63 (by decide) ?_
            exact ih (k + 1) (by omega) (by simp only [c_hpL, c_hpC, decide_eq_true c3, decide_eq_false c4, decide_eq_false (Int32.not_lt.mpr c5), Bool.not_true, Bool.not_false, Bool.and_true, Bool.true_and, Bool.and_false, Bool.false_and, Bool.or_true, Bool.true_or, Bool.or_false, Bool.false_or, Bool.and_self, Bool.or_self, eq_self, if_true, Bool.false_eq_true, if_false] at hi; exact hi) _ (lv_sub hl [2, 3, 4, 5, 0] rfl)
          · refine lv_iconst (v := 1) hx hb dX9_hasPaper_58 (by decide) ?_
            exact cr_rz hx hb hr hlocks (by simp only [c_hpL, c_hpC, decide_eq_true c3, decide_eq_false c4, decide_eq_true (Int32.not_le.mp c5), Bool.not_true, Bool.not_false, Bool.and_true, Bool.true_and, Bool.and_false, Bool.false_and, Bool.or_true, Bool.true_or, Bool.or_false, Bool.false_or, Bool.and_self, Bool.or_self, eq_self, if_true, Bool.false_eq_true, if_false] at hi; rw [← hT, ← hi]; rfl) (rfl) dX9_hasPaper_59
  exact lo (gA σ 94 x).toNatClampNeg 0 (by omega) hT.symm _ (lv_sub hl [1, 2, 3, 4, 0] rfl)
set_option maxHeartbeats 1000000 in
set_option maxRecDepth 20000 in
theorem x_young (l : Launch) (E : EV) (A : Nat → Prop) (σ : St) (L : Nat → Nat → Nat) (x ld dy : Int32) : Cr l E yX10_isTooYoung cX10_isTooYoung 3 (some .boolean) 0 0 [.ref (L 21 x.toNatClampNeg), .ref (lawA L (m_best σ ld dy)), .int dy] (fun H => Cd E A σ L H ∧ InvM σ ∧ okP σ x) (some (.int (bI (c_young σ x ld dy)))) := by
  refine Cr.of (by decide +kernel) (Nat.le_of_ble_eq_true rfl) (fun pg ev s mi bel mth cd hx hb hr hml hown hu hlocks hE hP ls hl => ?_)
  have hl : lv_has ls 3 [(0, .ref (L 21 x.toNatClampNeg)), (1, .ref (lawA L (m_best σ ld dy))), (2, .int dy)] := hl
  obtain ⟨hC, hI, hX⟩ := hP
  refine lv_iload_n hx hb dX10_isTooYoung_0 rfl (lv_at hl 2 rfl) ?_
  refine lv_aload_n hx hb dX10_isTooYoung_1 rfl (lv_at hl 0 rfl) ?_
  refine rd_get (k := 4) (v := .int (gA σ 5 x)) hx hb hown hu hE ok10 (cd_per hC (okP_lt hX)) (by decide) u307 (fun _ h => h) rfl dX10_isTooYoung_2 ?_
  refine lv_isub hx hb dX10_isTooYoung_5 ?_
  refine lv_aload_n hx hb dX10_isTooYoung_6 rfl (lv_at hl 1 rfl) ?_
  refine rd_get (k := 2) (v := .int (m_ask σ ld dy 2)) hx hb hown hu hE ok5 (cd_lawR hC hI ld dy) (by decide) u88 (fun _ h => h) rfl dX10_isTooYoung_7 ?_
  refine lv_sipush (v := 365) hx hb dX10_isTooYoung_10 (by decide) ?_
  refine lv_imul hx hb dX10_isTooYoung_13 ?_
  refine lv_icmp_ge (tgt := 21) hx hb dX10_isTooYoung_14 (by decide) (fun c1 => ?_) (fun c1 => ?_)
  · refine lv_iconst (v := 0) hx hb dX10_isTooYoung_21 (by decide) ?_
    exact cr_rz hx hb hr hlocks (by simp only [c_young, decide_eq_false (Int32.not_lt.mpr c1), Bool.not_true, Bool.not_false, Bool.and_true, Bool.true_and, Bool.and_false, Bool.false_and, Bool.or_true, Bool.true_or, Bool.or_false, Bool.false_or, Bool.and_self, Bool.or_self, eq_self, if_true, Bool.false_eq_true, if_false] <;> rfl) (rfl) dX10_isTooYoung_22
  · refine lv_iconst (v := 1) hx hb dX10_isTooYoung_17 (by decide) ?_
    refine lv_goto (tgt := 22) hx hb dX10_isTooYoung_18 (by decide) ?_
    exact cr_rz hx hb hr hlocks (by simp only [c_young, decide_eq_true (Int32.not_le.mp c1), Bool.not_true, Bool.not_false, Bool.and_true, Bool.true_and, Bool.and_false, Bool.false_and, Bool.or_true, Bool.true_or, Bool.or_false, Bool.false_or, Bool.and_self, Bool.or_self, eq_self, if_true, Bool.false_eq_true, if_false] <;> rfl) (rfl) dX10_isTooYoung_22
set_option maxHeartbeats 1000000 in
set_option maxRecDepth 20000 in
theorem x_lacks (l : Launch) (E : EV) (A : Nat → Prop) (σ : St) (L : Nat → Nat → Nat) (x ld dy : Int32) : Cr l E yX10_lacksPaper cX10_lacksPaper 4 (some .boolean) 4 89 [.ref (L 21 x.toNatClampNeg), .ref (lawA L (m_best σ ld dy)), .int dy] (fun H => Cd E A σ L H ∧ InvM σ ∧ okP σ x ∧ InvP σ) (some (.int (bI (c_laL σ x ld dy 3 0)))) := by
  refine Cr.of (by decide +kernel) (Nat.le_of_ble_eq_true rfl) (fun pg ev s mi bel mth cd hx hb hr hml hown hu hlocks hE hP ls hl => ?_)
  have hl : lv_has ls 4 [(0, .ref (L 21 x.toNatClampNeg)), (1, .ref (lawA L (m_best σ ld dy))), (2, .int dy)] := hl
  obtain ⟨hC, hI, hX, hK⟩ := hP
  refine lv_iconst (v := 0) hx hb dX10_lacksPaper_0 (by decide) ?_
  refine lv_istore_n (lv' := [(3, .int 0), (0, .ref (L 21 x.toNatClampNeg)), (1, .ref (lawA L (m_best σ ld dy))), (2, .int dy)]) hx hb dX10_lacksPaper_1 rfl hl (by decide) rfl (fun ls hl => ?_)
  obtain ⟨T, hT⟩ : ∃ z, z = c_laL σ x ld dy 3 0 := ⟨_, rfl⟩
  have lo : ∀ (f k : Nat), (k + f = 3) → (c_laL σ x ld dy f k = T) → ∀ (ls : Array Slot), lv_has ls 4 [(0, .ref (L 21 x.toNatClampNeg)), (1, .ref (lawA L (m_best σ ld dy))), (2, .int dy), (3, .int (nI k))] → W pg l ev { frames := 4, cells := 0, slots := 0, locals := 89 } s mi [.ref (L 21 x.toNatClampNeg), .ref (lawA L (m_best σ ld dy)), .int dy].toArray bel mth cd s.heap [] 0 0 (QR bel s [.ref (L 21 x.toNatClampNeg), .ref (lawA L (m_best σ ld dy)), .int dy].toArray (some (.int (bI (c_laL σ x ld dy 3 0))))) (F0 mi 2 ls []) := by
    intro f
    induction f with
    | zero =>
      intro k hk hi ls hl
      refine lv_iload_n hx hb dX10_lacksPaper_2 rfl (lv_at hl 3 rfl) ?_
      refine lv_iconst (v := 3) hx hb dX10_lacksPaper_3 (by decide) ?_
      refine lv_icmp_ge (tgt := 36) hx hb dX10_lacksPaper_4 (by decide) (fun c1 => ?_) (fun c1 => absurd (show nI 3 ≤ _ from nI_le (by omega) (by omega)) c1)
      refine lv_iconst (v := 0) hx hb dX10_lacksPaper_36 (by decide) ?_
      exact cr_rz hx hb hr hlocks (by simp only [c_laL] at hi; rw [← hT, ← hi]; rfl) (rfl) dX10_lacksPaper_37
    | succ f ih =>
      intro k hk hi ls hl
      refine lv_iload_n hx hb dX10_lacksPaper_2 rfl (lv_at hl 3 rfl) ?_
      refine lv_iconst (v := 3) hx hb dX10_lacksPaper_3 (by decide) ?_
      refine lv_icmp_ge (tgt := 36) hx hb dX10_lacksPaper_4 (by decide) (fun c2 => absurd c2 (show ¬ nI 3 ≤ _ from nI_ge (by omega) (by omega))) (fun c2 => ?_)
      refine lv_aload_n hx hb dX10_lacksPaper_7 rfl (lv_at hl 1 rfl) ?_
      refine lv_iload_n hx hb dX10_lacksPaper_8 rfl (lv_at hl 3 rfl) ?_
      refine cr_V (As := [.int (nI k)]) (rest := []) hx hb hml hown hu hE (x_wants l E A σ L ld dy (nI k)) kX4_wantsPaper u418 (cd_lawR hC hI ld dy) rfl rfl (⟨hC, hI⟩) ⟨Nat.le_of_ble_eq_true rfl, Nat.le_of_ble_eq_true rfl⟩ rfl hl.1 rfl (Nat.le_of_ble_eq_true rfl) ⟨Nat.le_of_ble_eq_true rfl, Nat.le_of_ble_eq_true rfl⟩ dX10_lacksPaper_9 ?_
      refine onB (fun b3 => ?_) (fun b3 => ?_)
      · refine lv_if_eq (tgt := 30) hx hb dX10_lacksPaper_12 (by decide) (fun c4 => absurd c4 (by decide)) (fun _ => ?_)
        refine lv_aload_n hx hb dX10_lacksPaper_15 rfl (lv_at hl 0 rfl) ?_
        refine lv_iload_n hx hb dX10_lacksPaper_16 rfl (lv_at hl 3 rfl) ?_
        refine lv_iload_n hx hb dX10_lacksPaper_17 rfl (lv_at hl 2 rfl) ?_
        refine lv_aload_n hx hb dX10_lacksPaper_18 rfl (lv_at hl 1 rfl) ?_
        refine rd_get (k := 6) (v := .int (m_ask σ ld dy 5)) hx hb hown hu hE ok5 (cd_lawR hC hI ld dy) (by decide) u95 (fun _ h => h) rfl dX10_lacksPaper_19 ?_
        refine cr_V (As := [.int (nI k), .int dy, .int (m_ask σ ld dy 5)]) (rest := []) hx hb hml hown hu hE (x_hasP l E A σ L x (nI k) dy (m_ask σ ld dy 5)) kX9_hasPaper u422 (cd_per hC (okP_lt hX)) rfl rfl (⟨hC, hI, hX, hK⟩) ⟨Nat.le_of_ble_eq_true rfl, Nat.le_of_ble_eq_true rfl⟩ rfl hl.1 rfl (Nat.le_of_ble_eq_true rfl) ⟨Nat.le_of_ble_eq_true rfl, Nat.le_of_ble_eq_true rfl⟩ dX10_lacksPaper_22 ?_
        refine onB (fun b5 => ?_) (fun b5 => ?_)
        · refine lv_if_ne (tgt := 30) hx hb dX10_lacksPaper_25 (by decide) (fun _ => ?_) (fun c6 => absurd c6 (by decide))
          refine lv_iinc (v := nI (k + 1)) (lv' := [(3, .int (nI (k + 1))), (0, .ref (L 21 x.toNatClampNeg)), (1, .ref (lawA L (m_best σ ld dy))), (2, .int dy)]) hx hb dX10_lacksPaper_30 hl (k := 3) rfl (nI_1 k) (by decide) rfl (fun ls hl => ?_)
          refine lv_goto (tgt := 2) hx hb dX10_lacksPaper_33 (by decide) ?_
          exact ih (k + 1) (by omega) (by simp only [c_laL, b3, b5, Bool.not_true, Bool.not_false, Bool.and_true, Bool.true_and, Bool.and_false, Bool.false_and, Bool.or_true, Bool.true_or, Bool.or_false, Bool.false_or, Bool.and_self, Bool.or_self, eq_self, if_true, Bool.false_eq_true, if_false] at hi; exact hi) _ (lv_sub hl [1, 2, 3, 0] rfl)
        · refine lv_if_ne (tgt := 30) hx hb dX10_lacksPaper_25 (by decide) (fun c7 => absurd c7 (by decide)) (fun _ => ?_)
          refine lv_iconst (v := 1) hx hb dX10_lacksPaper_28 (by decide) ?_
          exact cr_rz hx hb hr hlocks (by simp only [c_laL, b3, b5, Bool.not_true, Bool.not_false, Bool.and_true, Bool.true_and, Bool.and_false, Bool.false_and, Bool.or_true, Bool.true_or, Bool.or_false, Bool.false_or, Bool.and_self, Bool.or_self, eq_self, if_true, Bool.false_eq_true, if_false] at hi; rw [← hT, ← hi]; rfl) (rfl) dX10_lacksPaper_29
      · refine lv_if_eq (tgt := 30) hx hb dX10_lacksPaper_12 (by decide) (fun _ => ?_) (fun c8 => absurd (by decide) c8)
        refine lv_iinc (v := nI (k + 1)) (lv' := [(3, .int (nI (k + 1))), (0, .ref (L 21 x.toNatClampNeg)), (1, .ref (lawA L (m_best σ ld dy))), (2, .int dy)]) hx hb dX10_lacksPaper_30 hl (k := 3) rfl (nI_1 k) (by decide) rfl (fun ls hl => ?_)
        refine lv_goto (tgt := 2) hx hb dX10_lacksPaper_33 (by decide) ?_
        exact ih (k + 1) (by omega) (by simp only [c_laL, b3, Bool.not_true, Bool.not_false, Bool.and_true, Bool.true_and, Bool.and_false, Bool.false_and, Bool.or_true, Bool.true_or, Bool.or_false, Bool.false_or, Bool.and_self, Bool.or_self, eq_self, if_true, Bool.false_eq_true, if_false] at hi; exact hi) _ (lv_sub hl [1, 2, 3, 0] rfl)
  exact lo 3 0 rfl hT.symm _ (lv_sub hl [1, 2, 3, 0] rfl)
set_option maxHeartbeats 1000000 in
set_option maxRecDepth 20000 in
theorem x_bar (l : Launch) (E : EV) (A : Nat → Prop) (σ : St) (L : Nat → Nat → Nat) (a b dy : Int32) : Cr l E yX10_barToCouple cX10_barToCouple 7 (some .int) 5 112 [.ref (L 0 0), .ref (L 21 a.toNatClampNeg), .ref (L 21 b.toNatClampNeg), .int dy] (fun H => Cd E A σ L H ∧ InvM σ ∧ okP σ a ∧ okP σ b ∧ InvL σ ∧ InvP σ) (some (.int (c_bar σ a b dy))) := by
  refine Cr.of (by decide +kernel) (Nat.le_of_ble_eq_true rfl) (fun pg ev s mi bel mth cd hx hb hr hml hown hu hlocks hE hP ls hl => ?_)
  have hl : lv_has ls 7 [(0, .ref (L 0 0)), (1, .ref (L 21 a.toNatClampNeg)), (2, .ref (L 21 b.toNatClampNeg)), (3, .int dy)] := hl
  obtain ⟨hC, hI, hX, hY, hL, hK⟩ := hP
  refine lv_aload_n hx hb dX10_barToCouple_0 rfl (lv_at hl 1 rfl) ?_
  refine rd_get (k := 8) (v := va_rf (rfo L (gA σ 10 a))) hx hb hown hu hE ok10 (cd_per hC (okP_lt hX)) (by decide) u315 (fun _ h => h) rfl dX10_barToCouple_1 ?_
  refine onQ (fun q1 => ?_) (fun q1 => ?_)
  · refine lv_ifnonnullN hx hb dX10_barToCouple_4 ?_
    refine lv_aload_n hx hb dX10_barToCouple_7 rfl (lv_at hl 2 rfl) ?_
    refine rd_get (k := 8) (v := va_rf (rfo L (gA σ 10 b))) hx hb hown hu hE ok10 (cd_per hC (okP_lt hY)) (by decide) u315 (fun _ h => h) rfl dX10_barToCouple_8 ?_
    refine onQ (fun q2 => ?_) (fun q2 => ?_)
    · refine lv_ifnullN (tgt := 16) hx hb dX10_barToCouple_11 (by decide) ?_
      refine lv_aload_n hx hb dX10_barToCouple_16 rfl (lv_at hl 0 rfl) ?_
      refine rd_get (k := 5) (v := .ref (L 4 0)) hx hb hown hu hE ok11 (cd_reg hC) (by decide) u142 (fun _ h => h) rfl dX10_barToCouple_17 ?_
      refine lv_aload_n hx hb dX10_barToCouple_20 rfl (lv_at hl 1 rfl) ?_
      refine rd_get (k := 1) (v := .int (gA σ 4 a)) hx hb hown hu hE ok10 (cd_per hC (okP_lt hX)) (by decide) u301 (fun _ h => h) rfl dX10_barToCouple_21 ?_
      refine lv_iload_n hx hb dX10_barToCouple_24 rfl (lv_at hl 3 rfl) ?_
      refine cr_V (As := [.int (gA σ 4 a), .int dy]) (rest := []) hx hb hml hown hu hE (x_inF l E A σ L (gA σ 4 a) dy) kX5_inForce u407 (cd_lb hC) rfl rfl (⟨hC, hI, hL⟩) ⟨Nat.le_of_ble_eq_true rfl, Nat.le_of_ble_eq_true rfl⟩ rfl hl.1 rfl (Nat.le_of_ble_eq_true rfl) ⟨Nat.le_of_ble_eq_true rfl, Nat.le_of_ble_eq_true rfl⟩ dX10_barToCouple_25 ?_
      refine lv_astore (lv' := [(4, .ref (lawA L (m_best σ (gA σ 4 a) dy))), (0, .ref (L 0 0)), (1, .ref (L 21 a.toNatClampNeg)), (2, .ref (L 21 b.toNatClampNeg)), (3, .int dy)]) hx hb dX10_barToCouple_28 hl (by decide) rfl (fun ls hl => ?_)
      refine lv_aload_n hx hb dX10_barToCouple_30 rfl (lv_at hl 1 rfl) ?_
      refine rd_get (k := 5) (v := .ref (L 4 0)) hx hb hown hu hE ok11 (cd_reg hC) (by decide) u142 (fun _ h => h) rfl dX10_barToCouple_31 ?_
      refine lv_aload_n hx hb dX10_barToCouple_34 rfl (lv_at hl 3 rfl) ?_
      refine rd_get (k := 1) (v := .int (gA σ 4 b)) hx hb hown hu hE ok10 (cd_per hC (okP_lt hY)) (by decide) u301 (fun _ h => h) rfl dX10_barToCouple_35 ?_
      refine lv_iload_n hx hb dX10_barToCouple_38 rfl (lv_at hl 4 rfl) ?_
      refine cr_V (As := [.int (gA σ 4 b), .int dy]) (rest := []) hx hb hml hown hu hE (x_inF l E A σ L (gA σ 4 b) dy) kX5_inForce u407 (cd_lb hC) rfl rfl (⟨hC, hI, hL⟩) ⟨Nat.le_of_ble_eq_true rfl, Nat.le_of_ble_eq_true rfl⟩ rfl hl.1 rfl (Nat.le_of_ble_eq_true rfl) ⟨Nat.le_of_ble_eq_true rfl, Nat.le_of_ble_eq_true rfl⟩ dX10_barToCouple_39 ?_
      refine lv_astore (lv' := [(5, .ref (lawA L (m_best σ (gA σ 4 b) dy))), (4, .ref (lawA L (m_best σ (gA σ 4 a) dy))), (0, .ref (L 0 0)), (1, .ref (L 21 a.toNatClampNeg)), (2, .ref (L 21 b.toNatClampNeg)), (3, .int dy)]) hx hb dX10_barToCouple_42 hl (by decide) rfl (fun ls hl => ?_)
      refine lv_aload_n hx hb dX10_barToCouple_44 rfl (lv_at hl 3 rfl) ?_
      refine lv_aload hx hb dX10_barToCouple_45 (lv_at hl 1 rfl) ?_
      refine lv_iload_n hx hb dX10_barToCouple_47 rfl (lv_at hl 5 rfl) ?_
      refine cr_S (As := [.ref (L 21 a.toNatClampNeg), .ref (lawA L (m_best σ (gA σ 4 a) dy)), .int dy]) (rest := []) hx hb hml hown hu hE (x_young l E A σ L a (gA σ 4 a) dy) kX10_isTooYoung u412 (⟨hC, hI, hX⟩) ⟨Nat.le_of_ble_eq_true rfl, Nat.le_of_ble_eq_true rfl⟩ rfl hl.1 rfl (Nat.le_of_ble_eq_true rfl) ⟨Nat.le_of_ble_eq_true rfl, Nat.le_of_ble_eq_true rfl⟩ dX10_barToCouple_48 ?_
      refine onB (fun b3 => ?_) (fun b3 => ?_)
      · refine lv_if_ne (tgt := 64) hx hb dX10_barToCouple_51 (by decide) (fun _ => ?_) (fun c4 => absurd c4 (by decide))
        refine lv_iconst (v := 2) hx hb dX10_barToCouple_64 (by decide) ?_
        exact cr_ri hx hb hr hlocks (by simp only [c_bar, decide_eq_true q1, decide_eq_true q2, b3, Bool.not_true, Bool.not_false, Bool.and_true, Bool.true_and, Bool.and_false, Bool.false_and, Bool.or_true, Bool.true_or, Bool.or_false, Bool.false_or, Bool.and_self, Bool.or_self, eq_self, if_true, Bool.false_eq_true, if_false]) dX10_barToCouple_65
      · refine lv_if_ne (tgt := 64) hx hb dX10_barToCouple_51 (by decide) (fun c5 => absurd c5 (by decide)) (fun _ => ?_)
        refine lv_aload_n hx hb dX10_barToCouple_54 rfl (lv_at hl 4 rfl) ?_
        refine lv_aload hx hb dX10_barToCouple_55 (lv_at hl 0 rfl) ?_
        refine lv_iload_n hx hb dX10_barToCouple_57 rfl (lv_at hl 5 rfl) ?_
        refine cr_S (As := [.ref (L 21 b.toNatClampNeg), .ref (lawA L (m_best σ (gA σ 4 b) dy)), .int dy]) (rest := []) hx hb hml hown hu hE (x_young l E A σ L b (gA σ 4 b) dy) kX10_isTooYoung u412 (⟨hC, hI, hY⟩) ⟨Nat.le_of_ble_eq_true rfl, Nat.le_of_ble_eq_true rfl⟩ rfl hl.1 rfl (Nat.le_of_ble_eq_true rfl) ⟨Nat.le_of_ble_eq_true rfl, Nat.le_of_ble_eq_true rfl⟩ dX10_barToCouple_58 ?_
        refine onB (fun b6 => ?_) (fun b6 => ?_)
        · refine lv_if_eq (tgt := 66) hx hb dX10_barToCouple_61 (by decide) (fun c7 => absurd c7 (by decide)) (fun _ => ?_)
          refine lv_iconst (v := 2) hx hb dX10_barToCouple_64 (by decide) ?_
          exact cr_ri hx hb hr hlocks (by simp only [c_bar, decide_eq_true q1, decide_eq_true q2, b3, b6, Bool.not_true, Bool.not_false, Bool.and_true, Bool.true_and, Bool.and_false, Bool.false_and, Bool.or_true, Bool.true_or, Bool.or_false, Bool.false_or, Bool.and_self, Bool.or_self, eq_self, if_true, Bool.false_eq_true, if_false]) dX10_barToCouple_65
        · refine lv_if_eq (tgt := 66) hx hb dX10_barToCouple_61 (by decide) (fun _ => ?_) (fun c8 => absurd (by decide) c8)
          refine lv_aload_n hx hb dX10_barToCouple_66 rfl (lv_at hl 3 rfl) ?_
          refine lv_aload_n hx hb dX10_barToCouple_67 rfl (lv_at hl 4 rfl) ?_
          refine cr_S (As := [.ref (L 21 a.toNatClampNeg), .ref (L 21 b.toNatClampNeg)]) (rest := []) hx hb hml hown hu hE (x_kinOf l E A σ L a b) kX10_kinOf u376 (⟨hC, hI, hX, hY⟩) ⟨Nat.le_of_ble_eq_true rfl, Nat.le_of_ble_eq_true rfl⟩ rfl hl.1 rfl (Nat.le_of_ble_eq_true rfl) ⟨Nat.le_of_ble_eq_true rfl, Nat.le_of_ble_eq_true rfl⟩ dX10_barToCouple_68 ?_
          refine lv_istore (lv' := [(6, .int (k_kinOf σ a b)), (5, .ref (lawA L (m_best σ (gA σ 4 b) dy))), (4, .ref (lawA L (m_best σ (gA σ 4 a) dy))), (0, .ref (L 0 0)), (1, .ref (L 21 a.toNatClampNeg)), (2, .ref (L 21 b.toNatClampNeg)), (3, .int dy)]) hx hb dX10_barToCouple_71 hl (by decide) rfl (fun ls hl => ?_)
          refine lv_iload hx hb dX10_barToCouple_73 (lv_at hl 0 rfl) ?_
          refine lv_if_eq (tgt := 100) hx hb dX10_barToCouple_75 (by decide) (fun c9 => ?_) (fun c9 => ?_)
          · refine lv_aload_n hx hb dX10_barToCouple_100 rfl (lv_at hl 4 rfl) ?_
            refine lv_aload hx hb dX10_barToCouple_101 (lv_at hl 2 rfl) ?_
            refine lv_iload_n hx hb dX10_barToCouple_103 rfl (lv_at hl 6 rfl) ?_
            refine cr_S (As := [.ref (L 21 a.toNatClampNeg), .ref (lawA L (m_best σ (gA σ 4 a) dy)), .int dy]) (rest := []) hx hb hml hown hu hE (x_lacks l E A σ L a (gA σ 4 a) dy) kX10_lacksPaper u415 (⟨hC, hI, hX, hK⟩) ⟨Nat.le_of_ble_eq_true rfl, Nat.le_of_ble_eq_true rfl⟩ rfl hl.1 rfl (Nat.le_of_ble_eq_true rfl) ⟨Nat.le_of_ble_eq_true rfl, Nat.le_of_ble_eq_true rfl⟩ dX10_barToCouple_104 ?_
            refine onB (fun b10 => ?_) (fun b10 => ?_)
            · refine lv_if_ne (tgt := 120) hx hb dX10_barToCouple_107 (by decide) (fun _ => ?_) (fun c11 => absurd c11 (by decide))
              refine lv_iconst (v := 4) hx hb dX10_barToCouple_120 (by decide) ?_
              exact cr_ri hx hb hr hlocks (by simp only [c_bar, decide_eq_true q1, decide_eq_true q2, b3, b6, decide_eq_true c9, b10, Bool.not_true, Bool.not_false, Bool.and_true, Bool.true_and, Bool.and_false, Bool.false_and, Bool.or_true, Bool.true_or, Bool.or_false, Bool.false_or, Bool.and_self, Bool.or_self, eq_self, if_true, Bool.false_eq_true, if_false]) dX10_barToCouple_121
            · refine lv_if_ne (tgt := 120) hx hb dX10_barToCouple_107 (by decide) (fun c12 => absurd c12 (by decide)) (fun _ => ?_)
              refine lv_aload_n hx hb dX10_barToCouple_110 rfl (lv_at hl 5 rfl) ?_
              refine lv_aload hx hb dX10_barToCouple_111 (lv_at hl 1 rfl) ?_
              refine lv_iload_n hx hb dX10_barToCouple_113 rfl (lv_at hl 6 rfl) ?_
              refine cr_S (As := [.ref (L 21 b.toNatClampNeg), .ref (lawA L (m_best σ (gA σ 4 b) dy)), .int dy]) (rest := []) hx hb hml hown hu hE (x_lacks l E A σ L b (gA σ 4 b) dy) kX10_lacksPaper u415 (⟨hC, hI, hY, hK⟩) ⟨Nat.le_of_ble_eq_true rfl, Nat.le_of_ble_eq_true rfl⟩ rfl hl.1 rfl (Nat.le_of_ble_eq_true rfl) ⟨Nat.le_of_ble_eq_true rfl, Nat.le_of_ble_eq_true rfl⟩ dX10_barToCouple_114 ?_
              refine onB (fun b13 => ?_) (fun b13 => ?_)
              · refine lv_if_eq (tgt := 122) hx hb dX10_barToCouple_117 (by decide) (fun c14 => absurd c14 (by decide)) (fun _ => ?_)
                refine lv_iconst (v := 4) hx hb dX10_barToCouple_120 (by decide) ?_
                exact cr_ri hx hb hr hlocks (by simp only [c_bar, decide_eq_true q1, decide_eq_true q2, b3, b6, decide_eq_true c9, b10, b13, Bool.not_true, Bool.not_false, Bool.and_true, Bool.true_and, Bool.and_false, Bool.false_and, Bool.or_true, Bool.true_or, Bool.or_false, Bool.false_or, Bool.and_self, Bool.or_self, eq_self, if_true, Bool.false_eq_true, if_false]) dX10_barToCouple_121
              · refine lv_if_eq (tgt := 122) hx hb dX10_barToCouple_117 (by decide) (fun _ => ?_) (fun c15 => absurd (by decide) c15)
                refine lv_iconst (v := 0) hx hb dX10_barToCouple_122 (by decide) ?_
                exact cr_ri hx hb hr hlocks (by simp only [c_bar, decide_eq_true q1, decide_eq_true q2, b3, b6, decide_eq_true c9, b10, b13, Bool.not_true, Bool.not_false, Bool.and_true, Bool.true_and, Bool.and_false, Bool.false_and, Bool.or_true, Bool.true_or, Bool.or_false, Bool.false_or, Bool.and_self, Bool.or_self, eq_self, if_true, Bool.false_eq_true, if_false]) dX10_barToCouple_123
          · refine lv_iload hx hb dX10_barToCouple_78 (lv_at hl 0 rfl) ?_
            refine lv_aload hx hb dX10_barToCouple_80 (lv_at hl 2 rfl) ?_
            refine rd_get (k := 3) (v := .int (m_ask σ (gA σ 4 a) dy 3)) hx hb hown hu hE ok5 (cd_lawR hC hI (gA σ 4 a) dy) (by decide) u90 (fun _ h => h) rfl dX10_barToCouple_82 ?_
            refine lv_icmp_le (tgt := 98) hx hb dX10_barToCouple_85 (by decide) (fun c16 => ?_) (fun c16 => ?_)
            · refine lv_iconst (v := 3) hx hb dX10_barToCouple_98 (by decide) ?_
              exact cr_ri hx hb hr hlocks (by simp only [c_bar, decide_eq_true q1, decide_eq_true q2, b3, b6, decide_eq_false c9, decide_eq_false (Int32.not_lt.mpr c16), Bool.not_true, Bool.not_false, Bool.and_true, Bool.true_and, Bool.and_false, Bool.false_and, Bool.or_true, Bool.true_or, Bool.or_false, Bool.false_or, Bool.and_self, Bool.or_self, eq_self, if_true, Bool.false_eq_true, if_false]) dX10_barToCouple_99
            · refine lv_iload hx hb dX10_barToCouple_88 (lv_at hl 0 rfl) ?_
              refine lv_aload hx hb dX10_barToCouple_90 (lv_at hl 1 rfl) ?_
              refine rd_get (k := 3) (v := .int (m_ask σ (gA σ 4 b) dy 3)) hx hb hown hu hE ok5 (cd_lawR hC hI (gA σ 4 b) dy) (by decide) u90 (fun _ h => h) rfl dX10_barToCouple_92 ?_
              refine lv_icmp_gt (tgt := 100) hx hb dX10_barToCouple_95 (by decide) (fun c17 => ?_) (fun c17 => ?_)
              · refine lv_aload_n hx hb dX10_barToCouple_100 rfl (lv_at hl 4 rfl) ?_
                refine lv_aload hx hb dX10_barToCouple_101 (lv_at hl 2 rfl) ?_
                refine lv_iload_n hx hb dX10_barToCouple_103 rfl (lv_at hl 6 rfl) ?_
                refine cr_S (As := [.ref (L 21 a.toNatClampNeg), .ref (lawA L (m_best σ (gA σ 4 a) dy)), .int dy]) (rest := []) hx hb hml hown hu hE (x_lacks l E A σ L a (gA σ 4 a) dy) kX10_lacksPaper u415 (⟨hC, hI, hX, hK⟩) ⟨Nat.le_of_ble_eq_true rfl, Nat.le_of_ble_eq_true rfl⟩ rfl hl.1 rfl (Nat.le_of_ble_eq_true rfl) ⟨Nat.le_of_ble_eq_true rfl, Nat.le_of_ble_eq_true rfl⟩ dX10_barToCouple_104 ?_
                refine onB (fun b18 => ?_) (fun b18 => ?_)
                · refine lv_if_ne (tgt := 120) hx hb dX10_barToCouple_107 (by decide) (fun _ => ?_) (fun c19 => absurd c19 (by decide))
                  refine lv_iconst (v := 4) hx hb dX10_barToCouple_120 (by decide) ?_
                  exact cr_ri hx hb hr hlocks (by simp only [c_bar, decide_eq_true q1, decide_eq_true q2, b3, b6, decide_eq_false c9, decide_eq_true (Int32.not_le.mp c16), decide_eq_true c17, b18, Bool.not_true, Bool.not_false, Bool.and_true, Bool.true_and, Bool.and_false, Bool.false_and, Bool.or_true, Bool.true_or, Bool.or_false, Bool.false_or, Bool.and_self, Bool.or_self, eq_self, if_true, Bool.false_eq_true, if_false]) dX10_barToCouple_121
                · refine lv_if_ne (tgt := 120) hx hb dX10_barToCouple_107 (by decide) (fun c20 => absurd c20 (by decide)) (fun _ => ?_)
                  refine lv_aload_n hx hb dX10_barToCouple_110 rfl (lv_at hl 5 rfl) ?_
                  refine lv_aload hx hb dX10_barToCouple_111 (lv_at hl 1 rfl) ?_
                  refine lv_iload_n hx hb dX10_barToCouple_113 rfl (lv_at hl 6 rfl) ?_
                  refine cr_S (As := [.ref (L 21 b.toNatClampNeg), .ref (lawA L (m_best σ (gA σ 4 b) dy)), .int dy]) (rest := []) hx hb hml hown hu hE (x_lacks l E A σ L b (gA σ 4 b) dy) kX10_lacksPaper u415 (⟨hC, hI, hY, hK⟩) ⟨Nat.le_of_ble_eq_true rfl, Nat.le_of_ble_eq_true rfl⟩ rfl hl.1 rfl (Nat.le_of_ble_eq_true rfl) ⟨Nat.le_of_ble_eq_true rfl, Nat.le_of_ble_eq_true rfl⟩ dX10_barToCouple_114 ?_
                  refine onB (fun b21 => ?_) (fun b21 => ?_)
                  · refine lv_if_eq (tgt := 122) hx hb dX10_barToCouple_117 (by decide) (fun c22 => absurd c22 (by decide)) (fun _ => ?_)
                    refine lv_iconst (v := 4) hx hb dX10_barToCouple_120 (by decide) ?_
                    exact cr_ri hx hb hr hlocks (by simp only [c_bar, decide_eq_true q1, decide_eq_true q2, b3, b6, decide_eq_false c9, decide_eq_true (Int32.not_le.mp c16), decide_eq_true c17, b18, b21, Bool.not_true, Bool.not_false, Bool.and_true, Bool.true_and, Bool.and_false, Bool.false_and, Bool.or_true, Bool.true_or, Bool.or_false, Bool.false_or, Bool.and_self, Bool.or_self, eq_self, if_true, Bool.false_eq_true, if_false]) dX10_barToCouple_121
                  · refine lv_if_eq (tgt := 122) hx hb dX10_barToCouple_117 (by decide) (fun _ => ?_) (fun c23 => absurd (by decide) c23)
                    refine lv_iconst (v := 0) hx hb dX10_barToCouple_122 (by decide) ?_
                    exact cr_ri hx hb hr hlocks (by simp only [c_bar, decide_eq_true q1, decide_eq_true q2, b3, b6, decide_eq_false c9, decide_eq_true (Int32.not_le.mp c16), decide_eq_true c17, b18, b21, Bool.not_true, Bool.not_false, Bool.and_true, Bool.true_and, Bool.and_false, Bool.false_and, Bool.or_true, Bool.true_or, Bool.or_false, Bool.false_or, Bool.and_self, Bool.or_self, eq_self, if_true, Bool.false_eq_true, if_false]) dX10_barToCouple_123
              · refine lv_iconst (v := 3) hx hb dX10_barToCouple_98 (by decide) ?_
                exact cr_ri hx hb hr hlocks (by simp only [c_bar, decide_eq_true q1, decide_eq_true q2, b3, b6, decide_eq_false c9, decide_eq_true (Int32.not_le.mp c16), decide_eq_false c17, Bool.not_true, Bool.not_false, Bool.and_true, Bool.true_and, Bool.and_false, Bool.false_and, Bool.or_true, Bool.true_or, Bool.or_false, Bool.false_or, Bool.and_self, Bool.or_self, eq_self, if_true, Bool.false_eq_true, if_false]) dX10_barToCouple_99
    · refine lv_ifnull hx hb dX10_barToCouple_11 ?_
      refine lv_iconst (v := 1) hx hb dX10_barToCouple_14 (by decide) ?_
      exact cr_ri hx hb hr hlocks (by simp only [c_bar, decide_eq_true q1, decide_eq_false q2, Bool.not_true, Bool.not_false, Bool.and_true, Bool.true_and, Bool.and_false, Bool.false_and, Bool.or_true, Bool.true_or, Bool.or_false, Bool.false_or, Bool.and_self, Bool.or_self, eq_self, if_true, Bool.false_eq_true, if_false]) dX10_barToCouple_15
  · refine lv_ifnonnull (tgt := 14) hx hb dX10_barToCouple_4 (by decide) ?_
    refine lv_iconst (v := 1) hx hb dX10_barToCouple_14 (by decide) ?_
    exact cr_ri hx hb hr hlocks (by simp only [c_bar, decide_eq_false q1, Bool.not_true, Bool.not_false, Bool.and_true, Bool.true_and, Bool.and_false, Bool.false_and, Bool.or_true, Bool.true_or, Bool.or_false, Bool.false_or, Bool.and_self, Bool.or_self, eq_self, if_true, Bool.false_eq_true, if_false]) dX10_barToCouple_15
set_option maxHeartbeats 1000000 in
set_option maxRecDepth 20000 in
theorem x_hang (l : Launch) (E : EV) (A : Nat → Prop) (σ : St) (L : Nat → Nat → Nat) (n dy : Int32) : Cr l E yX10_hangingAsked cX10_hangingAsked 3 (some .int) 4 89 [.ref (L 0 0), .ref (L 22 n.toNatClampNeg), .int dy] (fun H => Cd E A σ L H ∧ InvM σ ∧ okN σ n ∧ InvL σ) (some (.int (m_wanted σ n dy))) := by
  refine Cr.of (by decide +kernel) (Nat.le_of_ble_eq_true rfl) (fun pg ev s mi bel mth cd hx hb hr hml hown hu hlocks hE hP ls hl => ?_)
  have hl : lv_has ls 3 [(0, .ref (L 0 0)), (1, .ref (L 22 n.toNatClampNeg)), (2, .int dy)] := hl
  obtain ⟨hC, hI, hX, hL⟩ := hP
  refine lv_aload_n hx hb dX10_hangingAsked_0 rfl (lv_at hl 0 rfl) ?_
  refine rd_get (k := 5) (v := .ref (L 4 0)) hx hb hown hu hE ok11 (cd_reg hC) (by decide) u142 (fun _ h => h) rfl dX10_hangingAsked_1 ?_
  refine lv_aload_n hx hb dX10_hangingAsked_4 rfl (lv_at hl 1 rfl) ?_
  refine rd_get (k := 1) (v := .ref (L 21 (gA σ 17 n).toNatClampNeg)) hx hb hown hu hE ok7 (cd_not hC (okN_lt hX)) (by decide) u451 (fun _ h => h) rfl dX10_hangingAsked_5 ?_
  refine rd_get (k := 1) (v := .int (gA σ 4 (gA σ 17 n))) hx hb hown hu hE ok10 (cd_per hC (okP_lt (one_ok hI hX))) (by decide) u301 (fun _ h => h) rfl dX10_hangingAsked_8 ?_
  refine lv_iload_n hx hb dX10_hangingAsked_11 rfl (lv_at hl 2 rfl) ?_
  refine cr_V (As := [.int (gA σ 4 (gA σ 17 n)), .int dy]) (rest := []) hx hb hml hown hu hE (x_inF l E A σ L (gA σ 4 (gA σ 17 n)) dy) kX5_inForce u407 (cd_lb hC) rfl rfl (⟨hC, hI, hL⟩) ⟨Nat.le_of_ble_eq_true rfl, Nat.le_of_ble_eq_true rfl⟩ rfl hl.1 rfl (Nat.le_of_ble_eq_true rfl) ⟨Nat.le_of_ble_eq_true rfl, Nat.le_of_ble_eq_true rfl⟩ dX10_hangingAsked_12 ?_
  refine rd_get (k := 7) (v := .int (m_ask σ (gA σ 4 (gA σ 17 n)) dy 6)) hx hb hown hu hE ok5 (cd_lawR hC hI (gA σ 4 (gA σ 17 n)) dy) (by decide) u97 (fun _ h => h) rfl dX10_hangingAsked_15 ?_
  refine lv_aload_n hx hb dX10_hangingAsked_18 rfl (lv_at hl 0 rfl) ?_
  refine rd_get (k := 5) (v := .ref (L 4 0)) hx hb hown hu hE ok11 (cd_reg hC) (by decide) u142 (fun _ h => h) rfl dX10_hangingAsked_19 ?_
  refine lv_aload_n hx hb dX10_hangingAsked_22 rfl (lv_at hl 1 rfl) ?_
  refine rd_get (k := 2) (v := .ref (L 21 (gA σ 18 n).toNatClampNeg)) hx hb hown hu hE ok7 (cd_not hC (okN_lt hX)) (by decide) u454 (fun _ h => h) rfl dX10_hangingAsked_23 ?_
  refine rd_get (k := 1) (v := .int (gA σ 4 (gA σ 18 n))) hx hb hown hu hE ok10 (cd_per hC (okP_lt (oth_ok hI hX))) (by decide) u301 (fun _ h => h) rfl dX10_hangingAsked_26 ?_
  refine lv_iload_n hx hb dX10_hangingAsked_29 rfl (lv_at hl 2 rfl) ?_
  refine cr_V (As := [.int (gA σ 4 (gA σ 18 n)), .int dy]) (rest := [.int (m_ask σ (gA σ 4 (gA σ 17 n)) dy 6)]) hx hb hml hown hu hE (x_inF l E A σ L (gA σ 4 (gA σ 18 n)) dy) kX5_inForce u407 (cd_lb hC) rfl rfl (⟨hC, hI, hL⟩) ⟨Nat.le_of_ble_eq_true rfl, Nat.le_of_ble_eq_true rfl⟩ rfl hl.1 rfl (Nat.le_of_ble_eq_true rfl) ⟨Nat.le_of_ble_eq_true rfl, Nat.le_of_ble_eq_true rfl⟩ dX10_hangingAsked_30 ?_
  refine rd_get (k := 7) (v := .int (m_ask σ (gA σ 4 (gA σ 18 n)) dy 6)) hx hb hown hu hE ok5 (cd_lawR hC hI (gA σ 4 (gA σ 18 n)) dy) (by decide) u97 (fun _ h => h) rfl dX10_hangingAsked_33 ?_
  refine va_mmax hx hb (by rw [hml]; exact hl.1.symm) hown (hu _ u525) (hu _ u218) (hu _ u11) (hu _ u219) (Nat.le_of_ble_eq_true rfl) (Nat.le_of_ble_eq_true rfl) (Nat.le_of_ble_eq_true rfl) (Nat.le_of_ble_eq_true rfl) dX10_hangingAsked_36 ?_
  exact cr_ri hx hb hr hlocks (rfl) dX10_hangingAsked_39
