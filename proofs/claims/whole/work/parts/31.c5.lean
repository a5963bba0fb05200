set_option maxHeartbeats 1000000 in
set_option maxRecDepth 20000 in
theorem x_bc (l : Launch) (E : EV) (n : Nat) : Cr l E yJ13_bitCount_95d88 cJ13_bitCount_95d88 2 (some .int) 0 0 [.long (lN n)] (fun H => n < 2 ^ 64) (some (.int (nI (pop 8 n)))) := by
  refine Cr.of (by decide +kernel) (Nat.le_of_ble_eq_true rfl) (fun pg ev s mi bel mth cd hx hb hr hml hown hu hlocks hE hP ls hl => ?_)
  have hl : lv_has ls 2 [(0, .long (lN n))] := hl
  have hn := hP
  refine lv_lload_n hx hb dJ13_bitCount_95d88_0 rfl (lv_at hl 0 rfl) ?_
  refine lv_lload_n hx hb dJ13_bitCount_95d88_1 rfl (lv_at hl 0 rfl) ?_
  refine lv_iconst (v := 1) hx hb dJ13_bitCount_95d88_2 (by decide) ?_
  refine lv_lushr hx hb dJ13_bitCount_95d88_3 rfl ?_
  refine lv_ldc2 (v := 6148914691236517205) hx hb hown (hu _ u510) dJ13_bitCount_95d88_4 ?_
  refine lv_land hx hb dJ13_bitCount_95d88_7 ?_
  refine lv_lsub hx hb dJ13_bitCount_95d88_8 ?_
  refine lv_lstore_n (lv' := [(0, .long ((lN n) - ((((lN n).toUInt64 >>> ((1 : Int32).toInt64.toUInt64 &&& Int64.toUInt64 63)).toInt64) &&& 6148914691236517205)))]) hx hb dJ13_bitCount_95d88_9 rfl hl (by decide) rfl (fun ls hl => ?_)
  obtain ⟨x1, hx1⟩ : ∃ z : Int64, z = (lN n) - ((((lN n).toUInt64 >>> ((1 : Int32).toInt64.toUInt64 &&& Int64.toUInt64 63)).toInt64) &&& 6148914691236517205) := ⟨_, rfl⟩
  rw [← hx1] at hl
  refine lv_lload_n hx hb dJ13_bitCount_95d88_10 rfl (lv_at hl 0 rfl) ?_
  refine lv_ldc2 (v := 3689348814741910323) hx hb hown (hu _ u511) dJ13_bitCount_95d88_11 ?_
  refine lv_land hx hb dJ13_bitCount_95d88_14 ?_
  refine lv_lload_n hx hb dJ13_bitCount_95d88_15 rfl (lv_at hl 0 rfl) ?_
  refine lv_iconst (v := 2) hx hb dJ13_bitCount_95d88_16 (by decide) ?_
  refine lv_lushr hx hb dJ13_bitCount_95d88_17 rfl ?_
  refine lv_ldc2 (v := 3689348814741910323) hx hb hown (hu _ u511) dJ13_bitCount_95d88_18 ?_
  refine lv_land hx hb dJ13_bitCount_95d88_21 ?_
  refine lv_ladd hx hb dJ13_bitCount_95d88_22 ?_
  refine lv_lstore_n (lv' := [(0, .long ((x1 &&& 3689348814741910323) + (((x1.toUInt64 >>> ((2 : Int32).toInt64.toUInt64 &&& Int64.toUInt64 63)).toInt64) &&& 3689348814741910323)))]) hx hb dJ13_bitCount_95d88_23 rfl hl (by decide) rfl (fun ls hl => ?_)
  obtain ⟨x2, hx2⟩ : ∃ z : Int64, z = (x1 &&& 3689348814741910323) + (((x1.toUInt64 >>> ((2 : Int32).toInt64.toUInt64 &&& Int64.toUInt64 63)).toInt64) &&& 3689348814741910323) := ⟨_, rfl⟩
  rw [← hx2] at hl
  refine lv_lload_n hx hb dJ13_bitCount_95d88_24 rfl (lv_at hl 0 rfl) ?_
  refine lv_lload_n hx hb dJ13_bitCount_95d88_25 rfl (lv_at hl 0 rfl) ?_
  refine lv_iconst (v := 4) hx hb dJ13_bitCount_95d88_26 (by decide) ?_
  refine lv_lushr hx hb dJ13_bitCount_95d88_27 rfl ?_
  refine lv_ladd hx hb dJ13_bitCount_95d88_28 ?_
  refine lv_ldc2 (v := 1085102592571150095) hx hb hown (hu _ u512) dJ13_bitCount_95d88_29 ?_
  refine lv_land hx hb dJ13_bitCount_95d88_32 ?_
  refine lv_lstore_n (lv' := [(0, .long ((x2 + ((x2.toUInt64 >>> ((4 : Int32).toInt64.toUInt64 &&& Int64.toUInt64 63)).toInt64)) &&& 1085102592571150095))]) hx hb dJ13_bitCount_95d88_33 rfl hl (by decide) rfl (fun ls hl => ?_)
  obtain ⟨x3, hx3⟩ : ∃ z : Int64, z = (x2 + ((x2.toUInt64 >>> ((4 : Int32).toInt64.toUInt64 &&& Int64.toUInt64 63)).toInt64)) &&& 1085102592571150095 := ⟨_, rfl⟩
  rw [← hx3] at hl
  refine lv_lload_n hx hb dJ13_bitCount_95d88_34 rfl (lv_at hl 0 rfl) ?_
  refine lv_lload_n hx hb dJ13_bitCount_95d88_35 rfl (lv_at hl 0 rfl) ?_
  refine lv_bipush (v := 8) hx hb dJ13_bitCount_95d88_36 (by decide) ?_
  refine lv_lushr hx hb dJ13_bitCount_95d88_38 rfl ?_
  refine lv_ladd hx hb dJ13_bitCount_95d88_39 ?_
  refine lv_lstore_n (lv' := [(0, .long (x3 + ((x3.toUInt64 >>> ((8 : Int32).toInt64.toUInt64 &&& Int64.toUInt64 63)).toInt64)))]) hx hb dJ13_bitCount_95d88_40 rfl hl (by decide) rfl (fun ls hl => ?_)
  obtain ⟨x4, hx4⟩ : ∃ z : Int64, z = x3 + ((x3.toUInt64 >>> ((8 : Int32).toInt64.toUInt64 &&& Int64.toUInt64 63)).toInt64) := ⟨_, rfl⟩
  rw [← hx4] at hl
  refine lv_lload_n hx hb dJ13_bitCount_95d88_41 rfl (lv_at hl 0 rfl) ?_
  refine lv_lload_n hx hb dJ13_bitCount_95d88_42 rfl (lv_at hl 0 rfl) ?_
  refine lv_bipush (v := 16) hx hb dJ13_bitCount_95d88_43 (by decide) ?_
  refine lv_lushr hx hb dJ13_bitCount_95d88_45 rfl ?_
  refine lv_ladd hx hb dJ13_bitCount_95d88_46 ?_
  refine lv_lstore_n (lv' := [(0, .long (x4 + ((x4.toUInt64 >>> ((16 : Int32).toInt64.toUInt64 &&& Int64.toUInt64 63)).toInt64)))]) hx hb dJ13_bitCount_95d88_47 rfl hl (by decide) rfl (fun ls hl => ?_)
  obtain ⟨x5, hx5⟩ : ∃ z : Int64, z = x4 + ((x4.toUInt64 >>> ((16 : Int32).toInt64.toUInt64 &&& Int64.toUInt64 63)).toInt64) := ⟨_, rfl⟩
  rw [← hx5] at hl
  refine lv_lload_n hx hb dJ13_bitCount_95d88_48 rfl (lv_at hl 0 rfl) ?_
  refine lv_lload_n hx hb dJ13_bitCount_95d88_49 rfl (lv_at hl 0 rfl) ?_
  refine lv_bipush (v := 32) hx hb dJ13_bitCount_95d88_50 (by decide) ?_
  refine lv_lushr hx hb dJ13_bitCount_95d88_52 rfl ?_
  refine lv_ladd hx hb dJ13_bitCount_95d88_53 ?_
  refine lv_lstore_n (lv' := [(0, .long (x5 + ((x5.toUInt64 >>> ((32 : Int32).toInt64.toUInt64 &&& Int64.toUInt64 63)).toInt64)))]) hx hb dJ13_bitCount_95d88_54 rfl hl (by decide) rfl (fun ls hl => ?_)
  obtain ⟨x6, hx6⟩ : ∃ z : Int64, z = x5 + ((x5.toUInt64 >>> ((32 : Int32).toInt64.toUInt64 &&& Int64.toUInt64 63)).toInt64) := ⟨_, rfl⟩
  rw [← hx6] at hl
  refine lv_lload_n hx hb dJ13_bitCount_95d88_55 rfl (lv_at hl 0 rfl) ?_
  refine lv_l2i hx hb dJ13_bitCount_95d88_56 rfl ?_
  refine lv_bipush (v := 127) hx hb dJ13_bitCount_95d88_57 (by decide) ?_
  refine lv_iand hx hb dJ13_bitCount_95d88_59 ?_
  exact cr_ri hx hb hr hlocks (by rw [bc_all hn hx1 hx2 hx3 hx4 hx5 hx6]) dJ13_bitCount_95d88_60
set_option maxHeartbeats 1000000 in
set_option maxRecDepth 20000 in
theorem x_feast (l : Launch) (E : EV) (A : Nat → Prop) (σ : St) (L : Nat → Nat → Nat) (x : Int32) : Cr l E yX0_isFeast cX0_isFeast 3 (some .boolean) 0 0 [.ref (L 2 0), .int x] (fun H => Cd E A σ L H ∧ InvM σ ∧ okD x) (some (.int (bI (!m_isFree σ x)))) := by
  refine Cr.of (by decide +kernel) (Nat.le_of_ble_eq_true rfl) (fun pg ev s mi bel mth cd hx hb hr hml hown hu hlocks hE hP ls hl => ?_)
  have hl : lv_has ls 3 [(0, .ref (L 2 0)), (1, .int x)] := hl
  obtain ⟨hC, hI, hX⟩ := hP
  have hn := (okD_n' hX).1
  refine lv_iload_n hx hb dX0_isFeast_0 rfl (lv_at hl 1 rfl) ?_
  refine lv_bipush (v := 6) hx hb dX0_isFeast_1 (by decide) ?_
  refine lv_ishr hx hb dX0_isFeast_3 ?_
  refine lv_istore_n (lv' := [(2, .int (x >>> (6 &&& 31))), (0, .ref (L 2 0)), (1, .int x)]) hx hb dX0_isFeast_4 rfl hl (by decide) rfl (fun ls hl => ?_)
  rw [sh6 hX] at hl
  refine lv_iload_n hx hb dX0_isFeast_5 rfl (lv_at hl 0 rfl) ?_
  refine lv_if_lt (tgt := 18) hx hb dX0_isFeast_6 (by decide) (fun c1 => absurd c1 (show ¬ nI (x.toNatClampNeg / 64) < 0 from nI_nn (by omega))) (fun c1 => ?_)
  refine lv_iload_n hx hb dX0_isFeast_9 rfl (lv_at hl 0 rfl) ?_
  refine lv_aload_n hx hb dX0_isFeast_10 rfl (lv_at hl 1 rfl) ?_
  refine rd_get (k := 0) (v := .ref (L 3 0)) hx hb hown hu hE ok1 (cd_cal hC) (by decide) u37 (fun _ h => h) rfl dX0_isFeast_11 ?_
  refine rd_lenl hx hb hE (cd_tf hC) dX0_isFeast_14 ?_
  refine lv_icmp_lt (tgt := 20) hx hb dX0_isFeast_15 (by decide) (fun c2 => ?_) (fun c2 => absurd (show nI (x.toNatClampNeg / 64) < nI 313 from nI_lt_ (by omega) (by omega)) c2)
  refine lv_iload_n hx hb dX0_isFeast_20 rfl (lv_at hl 2 rfl) ?_
  refine lv_bipush (v := 7) hx hb dX0_isFeast_21 (by decide) ?_
  refine lv_irem hx hb dX0_isFeast_23 (by decide) ?_
  refine lv_bipush (v := 6) hx hb dX0_isFeast_24 (by decide) ?_
  refine lv_icmp_eq (tgt := 47) hx hb dX0_isFeast_26 (by decide) (fun c3 => ?_) (fun c3 => ?_)
  · refine lv_iconst (v := 1) hx hb dX0_isFeast_47 (by decide) ?_
    refine lv_goto (tgt := 52) hx hb dX0_isFeast_48 (by decide) ?_
    exact cr_rz hx hb hr hlocks (by simp only [m_isFree, decide_eq_true c3, Bool.not_true, Bool.not_false, Bool.and_true, Bool.true_and, Bool.and_false, Bool.false_and, Bool.or_true, Bool.true_or, Bool.or_false, Bool.false_or, Bool.and_self, Bool.or_self, eq_self, if_true, Bool.false_eq_true, if_false] <;> rfl) (rfl) dX0_isFeast_52
  · refine lv_aload_n hx hb dX0_isFeast_29 rfl (lv_at hl 1 rfl) ?_
    refine rd_get (k := 0) (v := .ref (L 3 0)) hx hb hown hu hE ok1 (cd_cal hC) (by decide) u37 (fun _ h => h) rfl dX0_isFeast_30 ?_
    refine lv_iload_n hx hb dX0_isFeast_33 rfl (lv_at hl 0 rfl) ?_
    refine rd_lald hx hb hE (cd_tf hC) (w_in hn) dX0_isFeast_34 ?_
    refine lv_iload_n hx hb dX0_isFeast_35 rfl (lv_at hl 2 rfl) ?_
    refine lv_bipush (v := 63) hx hb dX0_isFeast_36 (by decide) ?_
    refine lv_iand hx hb dX0_isFeast_38 ?_
    refine lv_lshr hx hb dX0_isFeast_39 rfl ?_
    refine lv_lconst (v := 1) hx hb dX0_isFeast_40 (by decide) ?_
    refine lv_land hx hb dX0_isFeast_41 ?_
    refine lv_lconst (v := 0) hx hb dX0_isFeast_42 (by decide) ?_
    refine W.lcmp hx hb dX0_isFeast_43 ?_
    rw [bitq hX]
    refine onB (fun b4 => ?_) (fun b4 => ?_)
    · refine lv_if_eq (tgt := 51) hx hb dX0_isFeast_44 (by decide) (fun c5 => absurd c5 (by decide)) (fun _ => ?_)
      refine lv_iconst (v := 1) hx hb dX0_isFeast_47 (by decide) ?_
      refine lv_goto (tgt := 52) hx hb dX0_isFeast_48 (by decide) ?_
      exact cr_rz hx hb hr hlocks (by simp only [m_isFree, decide_eq_false c3, b4, Bool.not_true, Bool.not_false, Bool.and_true, Bool.true_and, Bool.and_false, Bool.false_and, Bool.or_true, Bool.true_or, Bool.or_false, Bool.false_or, Bool.and_self, Bool.or_self, eq_self, if_true, Bool.false_eq_true, if_false] <;> rfl) (rfl) dX0_isFeast_52
    · refine lv_if_eq (tgt := 51) hx hb dX0_isFeast_44 (by decide) (fun _ => ?_) (fun c6 => absurd (by decide) c6)
      refine lv_iconst (v := 0) hx hb dX0_isFeast_51 (by decide) ?_
      exact cr_rz hx hb hr hlocks (by simp only [m_isFree, decide_eq_false c3, b4, Bool.not_true, Bool.not_false, Bool.and_true, Bool.true_and, Bool.and_false, Bool.false_and, Bool.or_true, Bool.true_or, Bool.or_false, Bool.false_or, Bool.and_self, Bool.or_self, eq_self, if_true, Bool.false_eq_true, if_false] <;> rfl) (rfl) dX0_isFeast_52
set_option maxHeartbeats 1000000 in
set_option maxRecDepth 20000 in
theorem x_ahead (l : Launch) (E : EV) (A : Nat → Prop) (σ : St) (L : Nat → Nat → Nat) (x : Int32) : Cr l E yX0_feastsAheadOf cX0_feastsAheadOf 5 (some .int) 1 21 [.ref (L 2 0), .int x] (fun H => Cd E A σ L H ∧ InvM σ ∧ okD x) (some (.int (nI (ah σ x.toNatClampNeg)))) := by
  refine Cr.of (by decide +kernel) (Nat.le_of_ble_eq_true rfl) (fun pg ev s mi bel mth cd hx hb hr hml hown hu hlocks hE hP ls hl => ?_)
  have hl : lv_has ls 5 [(0, .ref (L 2 0)), (1, .int x)] := hl
  obtain ⟨hC, hI, hX⟩ := hP
  have hn := (okD_n' hX).1
  refine lv_iload_n hx hb dX0_feastsAheadOf_0 rfl (lv_at hl 1 rfl) ?_
  refine lv_bipush (v := 6) hx hb dX0_feastsAheadOf_1 (by decide) ?_
  refine lv_ishr hx hb dX0_feastsAheadOf_3 ?_
  refine lv_istore_n (lv' := [(2, .int (x >>> (6 &&& 31))), (0, .ref (L 2 0)), (1, .int x)]) hx hb dX0_feastsAheadOf_4 rfl hl (by decide) rfl (fun ls hl => ?_)
  rw [sh6 hX] at hl
  refine lv_iload_n hx hb dX0_feastsAheadOf_5 rfl (lv_at hl 2 rfl) ?_
  refine lv_bipush (v := 7) hx hb dX0_feastsAheadOf_6 (by decide) ?_
  refine lv_idiv hx hb dX0_feastsAheadOf_8 (by decide) ?_
  refine lv_istore_n (lv' := [(3, .int (x / 7)), (2, .int (nI (x.toNatClampNeg / 64))), (0, .ref (L 2 0)), (1, .int x)]) hx hb dX0_feastsAheadOf_9 rfl hl (by decide) rfl (fun ls hl => ?_)
  rw [dv7 (σ := σ) hX] at hl
  refine lv_iconst (v := 0) hx hb dX0_feastsAheadOf_10 (by decide) ?_
  refine lv_istore (lv' := [(4, .int 0), (3, .int (nI (x.toNatClampNeg / 7 + tcnt σ (64 * 0)))), (2, .int (nI (x.toNatClampNeg / 64))), (0, .ref (L 2 0)), (1, .int x)]) hx hb dX0_feastsAheadOf_11 hl (by decide) rfl (fun ls hl => ?_)
  have lo : ∀ (f k : Nat), (k + f = x.toNatClampNeg / 64) → ∀ (ls : Array Slot), lv_has ls 5 [(0, .ref (L 2 0)), (1, .int x), (2, .int (nI (x.toNatClampNeg / 64))), (3, .int (nI (x.toNatClampNeg / 7 + tcnt σ (64 * k)))), (4, .int (nI k))] → W pg l ev { frames := 1, cells := 0, slots := 0, locals := 21 } s mi [.ref (L 2 0), .int x].toArray bel mth cd s.heap [] 0 0 (QR bel s [.ref (L 2 0), .int x].toArray (some (.int (nI (ah σ x.toNatClampNeg))))) (F0 mi 13 ls []) := by
    intro f
    induction f with
    | zero =>
      intro k hk ls hl
      refine lv_iload hx hb dX0_feastsAheadOf_13 (lv_at hl 4 rfl) ?_
      refine lv_iload_n hx hb dX0_feastsAheadOf_15 rfl (lv_at hl 2 rfl) ?_
      refine lv_icmp_ge (tgt := 48) hx hb dX0_feastsAheadOf_16 (by decide) (fun c1 => ?_) (fun c1 => absurd (nI_le (by omega) (by omega)) c1)
      refine lv_iload_n hx hb dX0_feastsAheadOf_48 rfl (lv_at hl 2 rfl) ?_
      refine lv_if_lt (tgt := 82) hx hb dX0_feastsAheadOf_49 (by decide) (fun c2 => absurd c2 (show ¬ nI (x.toNatClampNeg / 64) < 0 from nI_nn (by omega))) (fun c2 => ?_)
      refine lv_iload_n hx hb dX0_feastsAheadOf_52 rfl (lv_at hl 2 rfl) ?_
      refine lv_aload_n hx hb dX0_feastsAheadOf_53 rfl (lv_at hl 0 rfl) ?_
      refine rd_get (k := 0) (v := .ref (L 3 0)) hx hb hown hu hE ok1 (cd_cal hC) (by decide) u37 (fun _ h => h) rfl dX0_feastsAheadOf_54 ?_
      refine rd_lenl hx hb hE (cd_tf hC) dX0_feastsAheadOf_57 ?_
      refine lv_icmp_ge (tgt := 82) hx hb dX0_feastsAheadOf_58 (by decide) (fun c3 => absurd c3 (show ¬ nI 313 ≤ _ from nI_ge (by omega) (by omega))) (fun c3 => ?_)
      refine lv_iload_n hx hb dX0_feastsAheadOf_61 rfl (lv_at hl 3 rfl) ?_
      refine lv_aload_n hx hb dX0_feastsAheadOf_62 rfl (lv_at hl 0 rfl) ?_
      refine rd_get (k := 0) (v := .ref (L 3 0)) hx hb hown hu hE ok1 (cd_cal hC) (by decide) u37 (fun _ h => h) rfl dX0_feastsAheadOf_63 ?_
      refine lv_iload_n hx hb dX0_feastsAheadOf_66 rfl (lv_at hl 2 rfl) ?_
      refine rd_lald hx hb hE (cd_tf hC) (w_in hn) dX0_feastsAheadOf_67 ?_
      refine lv_lconst (v := 1) hx hb dX0_feastsAheadOf_68 (by decide) ?_
      refine lv_iload_n hx hb dX0_feastsAheadOf_69 rfl (lv_at hl 1 rfl) ?_
      refine lv_bipush (v := 63) hx hb dX0_feastsAheadOf_70 (by decide) ?_
      refine lv_iand hx hb dX0_feastsAheadOf_72 ?_
      refine lv_lshl hx hb dX0_feastsAheadOf_73 rfl ?_
      refine lv_lconst (v := 1) hx hb dX0_feastsAheadOf_74 (by decide) ?_
      refine lv_lsub hx hb dX0_feastsAheadOf_75 ?_
      refine lv_land hx hb dX0_feastsAheadOf_76 ?_
      rw [mask_eq hX]
      refine cr_S (As := [.long (lN (bitsN (fb σ (x.toNatClampNeg / 64)) 64 % 2 ^ (x.toNatClampNeg % 64)))]) (rest := [.int (nI (x.toNatClampNeg / 7 + tcnt σ (64 * k)))]) hx hb hml hown hu hE (x_bc l E (bitsN (fb σ (x.toNatClampNeg / 64)) 64 % 2 ^ (x.toNatClampNeg % 64))) kJ13_bitCount_95d88 u507 (pop_lt) ⟨Nat.le_of_ble_eq_true rfl, Nat.le_of_ble_eq_true rfl⟩ rfl hl.1 rfl (Nat.le_of_ble_eq_true rfl) ⟨Nat.le_of_ble_eq_true rfl, Nat.le_of_ble_eq_true rfl⟩ dX0_feastsAheadOf_77 ?_
      refine lv_iadd hx hb dX0_feastsAheadOf_80 ?_
      refine lv_istore_n (lv' := [(3, .int ((nI (x.toNatClampNeg / 7 + tcnt σ (64 * k))) + (nI (pop 8 (bitsN (fb σ (x.toNatClampNeg / 64)) 64 % 2 ^ (x.toNatClampNeg % 64)))))), (0, .ref (L 2 0)), (1, .int x), (2, .int (nI (x.toNatClampNeg / 64))), (4, .int (nI k))]) hx hb dX0_feastsAheadOf_81 rfl hl (by decide) rfl (fun ls hl => ?_)
      refine lv_iload_n hx hb dX0_feastsAheadOf_82 rfl (lv_at hl 0 rfl) ?_
      exact cr_ri hx hb hr hlocks (by rw [show k = x.toNatClampNeg / 64 by omega, wlast]) dX0_feastsAheadOf_83
    | succ f ih =>
      intro k hk ls hl
      refine lv_iload hx hb dX0_feastsAheadOf_13 (lv_at hl 4 rfl) ?_
      refine lv_iload_n hx hb dX0_feastsAheadOf_15 rfl (lv_at hl 2 rfl) ?_
      refine lv_icmp_ge (tgt := 48) hx hb dX0_feastsAheadOf_16 (by decide) (fun c4 => absurd c4 (nI_ge (by omega) (by omega))) (fun c4 => ?_)
      refine lv_iload hx hb dX0_feastsAheadOf_19 (lv_at hl 4 rfl) ?_
      refine lv_aload_n hx hb dX0_feastsAheadOf_21 rfl (lv_at hl 0 rfl) ?_
      refine rd_get (k := 0) (v := .ref (L 3 0)) hx hb hown hu hE ok1 (cd_cal hC) (by decide) u37 (fun _ h => h) rfl dX0_feastsAheadOf_22 ?_
      refine rd_lenl hx hb hE (cd_tf hC) dX0_feastsAheadOf_25 ?_
      refine lv_icmp_ge (tgt := 48) hx hb dX0_feastsAheadOf_26 (by decide) (fun c5 => absurd c5 (show ¬ nI 313 ≤ _ from nI_ge (by omega) (by omega))) (fun c5 => ?_)
      refine lv_iload_n hx hb dX0_feastsAheadOf_29 rfl (lv_at hl 3 rfl) ?_
      refine lv_aload_n hx hb dX0_feastsAheadOf_30 rfl (lv_at hl 0 rfl) ?_
      refine rd_get (k := 0) (v := .ref (L 3 0)) hx hb hown hu hE ok1 (cd_cal hC) (by decide) u37 (fun _ h => h) rfl dX0_feastsAheadOf_31 ?_
      refine lv_iload hx hb dX0_feastsAheadOf_34 (lv_at hl 4 rfl) ?_
      refine rd_lald hx hb hE (cd_tf hC) (k_in (by omega)) dX0_feastsAheadOf_36 ?_
      refine cr_S (As := [.long (pk σ (nI k).toNatClampNeg)]) (rest := [.int (nI (x.toNatClampNeg / 7 + tcnt σ (64 * k)))]) hx hb hml hown hu hE (x_bc l E (bitsN (fb σ (nI k).toNatClampNeg) 64)) kJ13_bitCount_95d88 u507 (bits_lt _ 64) ⟨Nat.le_of_ble_eq_true rfl, Nat.le_of_ble_eq_true rfl⟩ rfl hl.1 rfl (Nat.le_of_ble_eq_true rfl) ⟨Nat.le_of_ble_eq_true rfl, Nat.le_of_ble_eq_true rfl⟩ dX0_feastsAheadOf_37 ?_
      refine lv_iadd hx hb dX0_feastsAheadOf_40 ?_
      refine lv_istore_n (lv' := [(3, .int ((nI (x.toNatClampNeg / 7 + tcnt σ (64 * k))) + (nI (pop 8 (bitsN (fb σ (nI k).toNatClampNeg) 64))))), (0, .ref (L 2 0)), (1, .int x), (2, .int (nI (x.toNatClampNeg / 64))), (4, .int (nI k))]) hx hb dX0_feastsAheadOf_41 rfl hl (by decide) rfl (fun ls hl => ?_)
      rw [wstep (by omega)] at hl
      refine lv_iinc (v := nI (k + 1)) (lv' := [(4, .int (nI (k + 1))), (3, .int (nI (x.toNatClampNeg / 7 + tcnt σ (64 * (k + 1))))), (0, .ref (L 2 0)), (1, .int x), (2, .int (nI (x.toNatClampNeg / 64)))]) hx hb dX0_feastsAheadOf_42 hl (k := 4) rfl (nI_1 k) (by decide) rfl (fun ls hl => ?_)
      refine lv_goto (tgt := 13) hx hb dX0_feastsAheadOf_45 (by decide) ?_
      exact ih (k + 1) (by omega) _ (lv_sub hl [2, 3, 4, 1, 0] rfl)
  exact lo (x.toNatClampNeg / 64) 0 (by omega) _ (lv_sub hl [3, 4, 2, 1, 0] rfl)
set_option maxHeartbeats 1000000 in
set_option maxRecDepth 20000 in
theorem x_wdb (l : Launch) (E : EV) (A : Nat → Prop) (σ : St) (L : Nat → Nat → Nat) (a b : Int32) : Cr l E yX0_workdaysBetween cX0_workdaysBetween 3 (some .int) 2 45 [.ref (L 2 0), .int a, .int b] (fun H => Cd E A σ L H ∧ InvM σ ∧ okD a ∧ okD b) (some (.int (c_wdb σ a b))) := by
  refine Cr.of (by decide +kernel) (Nat.le_of_ble_eq_true rfl) (fun pg ev s mi bel mth cd hx hb hr hml hown hu hlocks hE hP ls hl => ?_)
  have hl : lv_has ls 3 [(0, .ref (L 2 0)), (1, .int a), (2, .int b)] := hl
  obtain ⟨hC, hI, hA_, hB_⟩ := hP
  refine lv_iload_n hx hb dX0_workdaysBetween_0 rfl (lv_at hl 2 rfl) ?_
  refine lv_iload_n hx hb dX0_workdaysBetween_1 rfl (lv_at hl 1 rfl) ?_
  refine lv_iconst (v := 1) hx hb dX0_workdaysBetween_2 (by decide) ?_
  refine lv_iadd hx hb dX0_workdaysBetween_3 ?_
  refine lv_icmp_gt (tgt := 9) hx hb dX0_workdaysBetween_4 (by decide) (fun c1 => ?_) (fun c1 => ?_)
  · refine lv_iload_n hx hb dX0_workdaysBetween_9 rfl (lv_at hl 2 rfl) ?_
    refine lv_iload_n hx hb dX0_workdaysBetween_10 rfl (lv_at hl 1 rfl) ?_
    refine lv_isub hx hb dX0_workdaysBetween_11 ?_
    refine lv_iconst (v := 1) hx hb dX0_workdaysBetween_12 (by decide) ?_
    refine lv_isub hx hb dX0_workdaysBetween_13 ?_
    refine lv_aload_n hx hb dX0_workdaysBetween_14 rfl (lv_at hl 0 rfl) ?_
    refine lv_iload_n hx hb dX0_workdaysBetween_15 rfl (lv_at hl 2 rfl) ?_
    refine cr_V (As := [.int b]) (rest := [.int ((b - a) - 1)]) hx hb hml hown hu hE (x_ahead l E A σ L b) kX0_feastsAheadOf u503 (cd_cal hC) rfl rfl (⟨hC, hI, hB_⟩) ⟨Nat.le_of_ble_eq_true rfl, Nat.le_of_ble_eq_true rfl⟩ rfl hl.1 rfl (Nat.le_of_ble_eq_true rfl) ⟨Nat.le_of_ble_eq_true rfl, Nat.le_of_ble_eq_true rfl⟩ dX0_workdaysBetween_16 ?_
    refine lv_aload_n hx hb dX0_workdaysBetween_19 rfl (lv_at hl 0 rfl) ?_
    refine lv_iload_n hx hb dX0_workdaysBetween_20 rfl (lv_at hl 1 rfl) ?_
    refine lv_iconst (v := 1) hx hb dX0_workdaysBetween_21 (by decide) ?_
    refine lv_iadd hx hb dX0_workdaysBetween_22 ?_
    refine cr_V (As := [.int (a + 1)]) (rest := [.int (nI (ah σ b.toNatClampNeg)), .int ((b - a) - 1)]) hx hb hml hown hu hE (x_ahead l E A σ L (a + 1)) kX0_feastsAheadOf u503 (cd_cal hC) rfl rfl (⟨hC, hI, okD_1 hA_ hB_ c1⟩) ⟨Nat.le_of_ble_eq_true rfl, Nat.le_of_ble_eq_true rfl⟩ rfl hl.1 rfl (Nat.le_of_ble_eq_true rfl) ⟨Nat.le_of_ble_eq_true rfl, Nat.le_of_ble_eq_true rfl⟩ dX0_workdaysBetween_23 ?_
    refine lv_isub hx hb dX0_workdaysBetween_26 ?_
    refine lv_isub hx hb dX0_workdaysBetween_27 ?_
    exact cr_ri hx hb hr hlocks (by simp only [c_wdb, decide_eq_true c1, Bool.not_true, Bool.not_false, Bool.and_true, Bool.true_and, Bool.and_false, Bool.false_and, Bool.or_true, Bool.true_or, Bool.or_false, Bool.false_or, Bool.and_self, Bool.or_self, eq_self, if_true, Bool.false_eq_true, if_false]) dX0_workdaysBetween_28
  · refine lv_iconst (v := 0) hx hb dX0_workdaysBetween_7 (by decide) ?_
    exact cr_ri hx hb hr hlocks (by simp only [c_wdb, decide_eq_false c1, Bool.not_true, Bool.not_false, Bool.and_true, Bool.true_and, Bool.and_false, Bool.false_and, Bool.or_true, Bool.true_or, Bool.or_false, Bool.false_or, Bool.and_self, Bool.or_self, eq_self, if_true, Bool.false_eq_true, if_false]) dX0_workdaysBetween_8
set_option maxHeartbeats 1000000 in
set_option maxRecDepth 20000 in
theorem x_ripeOn (l : Launch) (E : EV) (A : Nat → Prop) (σ : St) (L : Nat → Nat → Nat) (n d : Int32) : Cr l E yX10_isRipeOn cX10_isRipeOn 3 (some .boolean) 5 111 [.ref (L 0 0), .ref (L 22 n.toNatClampNeg), .int d] (fun H => Cd E A σ L H ∧ InvM σ ∧ okN σ n ∧ InvL σ ∧ okD d) (some (.int (bI (c_ripeOn σ n d)))) := by
  refine Cr.of (by decide +kernel) (Nat.le_of_ble_eq_true rfl) (fun pg ev s mi bel mth cd hx hb hr hml hown hu hlocks hE hP ls hl => ?_)
  have hl : lv_has ls 3 [(0, .ref (L 0 0)), (1, .ref (L 22 n.toNatClampNeg)), (2, .int d)] := hl
  obtain ⟨hC, hI, hX, hL, hD⟩ := hP
  refine lv_aload_n hx hb dX10_isRipeOn_0 rfl (lv_at hl 1 rfl) ?_
  refine rd_get (k := 5) (v := .int (gA σ 93 n)) hx hb hown hu hE ok7 (cd_not hC (okN_lt hX)) (by decide) u460 (fun _ h => h) rfl dX10_isRipeOn_1 ?_
  refine lv_if_ne (tgt := 40) hx hb dX10_isRipeOn_4 (by decide) (fun c1 => ?_) (fun c1 => ?_)
  · refine lv_iconst (v := 0) hx hb dX10_isRipeOn_40 (by decide) ?_
    exact cr_rz hx hb hr hlocks (by simp only [c_ripeOn, decide_eq_false c1, Bool.not_true, Bool.not_false, Bool.and_true, Bool.true_and, Bool.and_false, Bool.false_and, Bool.or_true, Bool.true_or, Bool.or_false, Bool.false_or, Bool.and_self, Bool.or_self, eq_self, if_true, Bool.false_eq_true, if_false] <;> rfl) (rfl) dX10_isRipeOn_41
  · refine lv_iload_n hx hb dX10_isRipeOn_7 rfl (lv_at hl 2 rfl) ?_
    refine lv_aload_n hx hb dX10_isRipeOn_8 rfl (lv_at hl 1 rfl) ?_
    refine rd_get (k := 3) (v := .int (gA σ 19 n)) hx hb hown hu hE ok7 (cd_not hC (okN_lt hX)) (by decide) u456 (fun _ h => h) rfl dX10_isRipeOn_9 ?_
    refine lv_icmp_lt (tgt := 40) hx hb dX10_isRipeOn_12 (by decide) (fun c2 => ?_) (fun c2 => ?_)
    · refine lv_iconst (v := 0) hx hb dX10_isRipeOn_40 (by decide) ?_
      exact cr_rz hx hb hr hlocks (by simp only [c_ripeOn, decide_eq_true c1, decide_eq_true c2, Bool.not_true, Bool.not_false, Bool.and_true, Bool.true_and, Bool.and_false, Bool.false_and, Bool.or_true, Bool.true_or, Bool.or_false, Bool.false_or, Bool.and_self, Bool.or_self, eq_self, if_true, Bool.false_eq_true, if_false] <;> rfl) (rfl) dX10_isRipeOn_41
    · refine lv_aload_n hx hb dX10_isRipeOn_15 rfl (lv_at hl 0 rfl) ?_
      refine rd_get (k := 4) (v := .ref (L 2 0)) hx hb hown hu hE ok11 (cd_reg hC) (by decide) u141 (fun _ h => h) rfl dX10_isRipeOn_16 ?_
      refine lv_aload_n hx hb dX10_isRipeOn_19 rfl (lv_at hl 1 rfl) ?_
      refine rd_get (k := 3) (v := .int (gA σ 19 n)) hx hb hown hu hE ok7 (cd_not hC (okN_lt hX)) (by decide) u456 (fun _ h => h) rfl dX10_isRipeOn_20 ?_
      refine lv_iload_n hx hb dX10_isRipeOn_23 rfl (lv_at hl 2 rfl) ?_
      refine cr_V (As := [.int (gA σ 19 n), .int d]) (rest := []) hx hb hml hown hu hE (x_wdb l E A σ L (gA σ 19 n) d) kX0_workdaysBetween u499 (cd_cal hC) rfl rfl (⟨hC, hI, pos_ok hI hX, hD⟩) ⟨Nat.le_of_ble_eq_true rfl, Nat.le_of_ble_eq_true rfl⟩ rfl hl.1 rfl (Nat.le_of_ble_eq_true rfl) ⟨Nat.le_of_ble_eq_true rfl, Nat.le_of_ble_eq_true rfl⟩ dX10_isRipeOn_24 ?_
      refine lv_aload_n hx hb dX10_isRipeOn_27 rfl (lv_at hl 0 rfl) ?_
      refine lv_aload_n hx hb dX10_isRipeOn_28 rfl (lv_at hl 1 rfl) ?_
      refine lv_iload_n hx hb dX10_isRipeOn_29 rfl (lv_at hl 2 rfl) ?_
      refine cr_V (As := [.ref (L 22 n.toNatClampNeg), .int d]) (rest := [.int (c_wdb σ (gA σ 19 n) d)]) hx hb hml hown hu hE (x_hang l E A σ L n d) kX10_hangingAsked u521 (cd_reg hC) rfl rfl (⟨hC, hI, hX, hL⟩) ⟨Nat.le_of_ble_eq_true rfl, Nat.le_of_ble_eq_true rfl⟩ rfl hl.1 rfl (Nat.le_of_ble_eq_true rfl) ⟨Nat.le_of_ble_eq_true rfl, Nat.le_of_ble_eq_true rfl⟩ dX10_isRipeOn_30 ?_
      refine lv_icmp_lt (tgt := 40) hx hb dX10_isRipeOn_33 (by decide) (fun c3 => ?_) (fun c3 => ?_)
      · refine lv_iconst (v := 0) hx hb dX10_isRipeOn_40 (by decide) ?_
        exact cr_rz hx hb hr hlocks (by simp only [c_ripeOn, decide_eq_true c1, decide_eq_false c2, decide_eq_true c3, Bool.not_true, Bool.not_false, Bool.and_true, Bool.true_and, Bool.and_false, Bool.false_and, Bool.or_true, Bool.true_or, Bool.or_false, Bool.false_or, Bool.and_self, Bool.or_self, eq_self, if_true, Bool.false_eq_true, if_false] <;> rfl) (rfl) dX10_isRipeOn_41
      · refine lv_iconst (v := 1) hx hb dX10_isRipeOn_36 (by decide) ?_
        refine lv_goto (tgt := 41) hx hb dX10_isRipeOn_37 (by decide) ?_
        exact cr_rz hx hb hr hlocks (by simp only [c_ripeOn, decide_eq_true c1, decide_eq_false c2, decide_eq_false c3, Bool.not_true, Bool.not_false, Bool.and_true, Bool.true_and, Bool.and_false, Bool.false_and, Bool.or_true, Bool.true_or, Bool.or_false, Bool.false_or, Bool.and_self, Bool.or_self, eq_self, if_true, Bool.false_eq_true, if_false] <;> rfl) (rfl) dX10_isRipeOn_41
set_option maxHeartbeats 1000000 in
set_option maxRecDepth 20000 in
theorem x_barD (l : Launch) (E : EV) (A : Nat → Prop) (σ : St) (L : Nat → Nat → Nat) (n d : Int32) : Cr l E yX10_barToDay cX10_barToDay 3 (some .int) 6 133 [.ref (L 0 0), .ref (L 22 n.toNatClampNeg), .int d] (fun H => Cd E A σ L H ∧ InvM σ ∧ okN σ n ∧ InvL σ ∧ okD d) (some (.int (c_barD σ n d))) := by
  refine Cr.of (by decide +kernel) (Nat.le_of_ble_eq_true rfl) (fun pg ev s mi bel mth cd hx hb hr hml hown hu hlocks hE hP ls hl => ?_)
  have hl : lv_has ls 3 [(0, .ref (L 0 0)), (1, .ref (L 22 n.toNatClampNeg)), (2, .int d)] := hl
  obtain ⟨hC, hI, hX, hL, hD⟩ := hP
  refine lv_aload_n hx hb dX10_barToDay_0 rfl (lv_at hl 1 rfl) ?_
  refine rd_get (k := 4) (v := .int (gA σ 20 n)) hx hb hown hu hE ok7 (cd_not hC (okN_lt hX)) (by decide) u458 (fun _ h => h) rfl dX10_barToDay_1 ?_
  refine lv_if_eq (tgt := 9) hx hb dX10_barToDay_4 (by decide) (fun c1 => ?_) (fun c1 => ?_)
  · refine lv_aload_n hx hb dX10_barToDay_9 rfl (lv_at hl 0 rfl) ?_
    refine rd_get (k := 4) (v := .ref (L 2 0)) hx hb hown hu hE ok11 (cd_reg hC) (by decide) u141 (fun _ h => h) rfl dX10_barToDay_10 ?_
    refine lv_iload_n hx hb dX10_barToDay_13 rfl (lv_at hl 2 rfl) ?_
    refine cr_V (As := [.int d]) (rest := []) hx hb hml hown hu hE (x_feast l E A σ L d) kX0_isFeast u359 (cd_cal hC) rfl rfl (⟨hC, hI, hD⟩) ⟨Nat.le_of_ble_eq_true rfl, Nat.le_of_ble_eq_true rfl⟩ rfl hl.1 rfl (Nat.le_of_ble_eq_true rfl) ⟨Nat.le_of_ble_eq_true rfl, Nat.le_of_ble_eq_true rfl⟩ dX10_barToDay_14 ?_
    refine onB (fun b2 => ?_) (fun b2 => ?_)
    · replace b2 := not_t b2
      refine lv_if_eq (tgt := 22) hx hb dX10_barToDay_17 (by decide) (fun c3 => absurd c3 (by decide)) (fun _ => ?_)
      refine lv_iconst (v := 2) hx hb dX10_barToDay_20 (by decide) ?_
      exact cr_ri hx hb hr hlocks (by simp only [c_barD, decide_eq_true c1, b2, Bool.not_true, Bool.not_false, Bool.and_true, Bool.true_and, Bool.and_false, Bool.false_and, Bool.or_true, Bool.true_or, Bool.or_false, Bool.false_or, Bool.and_self, Bool.or_self, eq_self, if_true, Bool.false_eq_true, if_false]) dX10_barToDay_21
    · replace b2 := not_f b2
      refine lv_if_eq (tgt := 22) hx hb dX10_barToDay_17 (by decide) (fun _ => ?_) (fun c4 => absurd (by decide) c4)
      refine lv_aload_n hx hb dX10_barToDay_22 rfl (lv_at hl 0 rfl) ?_
      refine lv_aload_n hx hb dX10_barToDay_23 rfl (lv_at hl 1 rfl) ?_
      refine lv_iload_n hx hb dX10_barToDay_24 rfl (lv_at hl 2 rfl) ?_
      refine cr_V (As := [.ref (L 22 n.toNatClampNeg), .int d]) (rest := []) hx hb hml hown hu hE (x_ripeOn l E A σ L n d) kX10_isRipeOn u578 (cd_reg hC) rfl rfl (⟨hC, hI, hX, hL, hD⟩) ⟨Nat.le_of_ble_eq_true rfl, Nat.le_of_ble_eq_true rfl⟩ rfl hl.1 rfl (Nat.le_of_ble_eq_true rfl) ⟨Nat.le_of_ble_eq_true rfl, Nat.le_of_ble_eq_true rfl⟩ dX10_barToDay_25 ?_
      refine onB (fun b5 => ?_) (fun b5 => ?_)
      · refine lv_if_eq (tgt := 35) hx hb dX10_barToDay_28 (by decide) (fun c6 => absurd c6 (by decide)) (fun _ => ?_)
        refine lv_iconst (v := 0) hx hb dX10_barToDay_31 (by decide) ?_
        refine lv_goto (tgt := 36) hx hb dX10_barToDay_32 (by decide) ?_
        exact cr_ri hx hb hr hlocks (by simp only [c_barD, decide_eq_true c1, b2, b5, Bool.not_true, Bool.not_false, Bool.and_true, Bool.true_and, Bool.and_false, Bool.false_and, Bool.or_true, Bool.true_or, Bool.or_false, Bool.false_or, Bool.and_self, Bool.or_self, eq_self, if_true, Bool.false_eq_true, if_false]) dX10_barToDay_36
      · refine lv_if_eq (tgt := 35) hx hb dX10_barToDay_28 (by decide) (fun _ => ?_) (fun c7 => absurd (by decide) c7)
        refine lv_iconst (v := 3) hx hb dX10_barToDay_35 (by decide) ?_
        exact cr_ri hx hb hr hlocks (by simp only [c_barD, decide_eq_true c1, b2, b5, Bool.not_true, Bool.not_false, Bool.and_true, Bool.true_and, Bool.and_false, Bool.false_and, Bool.or_true, Bool.true_or, Bool.or_false, Bool.false_or, Bool.and_self, Bool.or_self, eq_self, if_true, Bool.false_eq_true, if_false]) dX10_barToDay_36
  · refine lv_iconst (v := 1) hx hb dX10_barToDay_7 (by decide) ?_
    exact cr_ri hx hb hr hlocks (by simp only [c_barD, decide_eq_false c1, Bool.not_true, Bool.not_false, Bool.and_true, Bool.true_and, Bool.and_false, Bool.false_and, Bool.or_true, Bool.true_or, Bool.or_false, Bool.false_or, Bool.and_self, Bool.or_self, eq_self, if_true, Bool.false_eq_true, if_false]) dX10_barToDay_8
set_option maxHeartbeats 1000000 in
set_option maxRecDepth 20000 in
theorem x_hung (l : Launch) (E : EV) (A : Nat → Prop) (σ : St) (L : Nat → Nat → Nat) (n d : Int32) : Cr l E yX10_hung cX10_hung 4 (some .int) 4 85 [.ref (L 0 0), .int n, .int d] (fun H => Cd E A σ L H ∧ InvM σ) (some (.int (k_hung σ n d))) := by
  refine Cr.of (by decide +kernel) (Nat.le_of_ble_eq_true rfl) (fun pg ev s mi bel mth cd hx hb hr hml hown hu hlocks hE hP ls hl => ?_)
  have hl : lv_has ls 4 [(0, .ref (L 0 0)), (1, .int n), (2, .int d)] := hl
  obtain ⟨hC, hI⟩ := hP
  refine lv_aload_n hx hb dX10_hung_0 rfl (lv_at hl 0 rfl) ?_
  refine lv_iload_n hx hb dX10_hung_1 rfl (lv_at hl 1 rfl) ?_
  refine cr_V (As := [.int n]) (rest := []) hx hb hml hown hu hE (x_notAt l E A σ L n) kX10_noticeAt u487 (cd_reg hC) rfl rfl (⟨hC, hI⟩) ⟨Nat.le_of_ble_eq_true rfl, Nat.le_of_ble_eq_true rfl⟩ rfl hl.1 rfl (Nat.le_of_ble_eq_true rfl) ⟨Nat.le_of_ble_eq_true rfl, Nat.le_of_ble_eq_true rfl⟩ dX10_hung_2 ?_
  refine onO (fun b1 => ?_) (fun b1 => ?_)
  · refine lv_astore_n (lv' := [(3, .ref (L 22 n.toNatClampNeg)), (0, .ref (L 0 0)), (1, .int n), (2, .int d)]) hx hb dX10_hung_5 rfl hl (by decide) rfl (fun ls hl => ?_)
    refine lv_aload_n hx hb dX10_hung_6 rfl (lv_at hl 0 rfl) ?_
    refine lv_ifnull hx hb dX10_hung_7 ?_
    refine lv_iload_n hx hb dX10_hung_10 rfl (lv_at hl 3 rfl) ?_
    refine cr_S (As := [.int d]) (rest := []) hx hb hml hown hu hE (x_isDay l E d) kX10_isDay u178 (trivial) ⟨Nat.le_of_ble_eq_true rfl, Nat.le_of_ble_eq_true rfl⟩ rfl hl.1 rfl (Nat.le_of_ble_eq_true rfl) ⟨Nat.le_of_ble_eq_true rfl, Nat.le_of_ble_eq_true rfl⟩ dX10_hung_11 ?_
    refine onB (fun b2 => ?_) (fun b2 => ?_)
    · refine lv_if_ne (tgt := 19) hx hb dX10_hung_14 (by decide) (fun _ => ?_) (fun c3 => absurd c3 (by decide))
      refine lv_aload_n hx hb dX10_hung_19 rfl (lv_at hl 1 rfl) ?_
      refine rd_get (k := 4) (v := .ref (L 2 0)) hx hb hown hu hE ok11 (cd_reg hC) (by decide) u141 (fun _ h => h) rfl dX10_hung_20 ?_
      refine lv_aload_n hx hb dX10_hung_23 rfl (lv_at hl 0 rfl) ?_
      refine rd_get (k := 3) (v := .int (gA σ 19 n)) hx hb hown hu hE ok7 (cd_not hC (okN_lt (isN_ok hI b1))) (by decide) u456 (fun _ h => h) rfl dX10_hung_24 ?_
      refine lv_iload_n hx hb dX10_hung_27 rfl (lv_at hl 3 rfl) ?_
      refine cr_V (As := [.int (gA σ 19 n), .int d]) (rest := []) hx hb hml hown hu hE (x_wdb l E A σ L (gA σ 19 n) d) kX0_workdaysBetween u499 (cd_cal hC) rfl rfl (⟨hC, hI, pos_ok hI (isN_ok hI b1), okD_of b2⟩) ⟨Nat.le_of_ble_eq_true rfl, Nat.le_of_ble_eq_true rfl⟩ rfl hl.1 rfl (Nat.le_of_ble_eq_true rfl) ⟨Nat.le_of_ble_eq_true rfl, Nat.le_of_ble_eq_true rfl⟩ dX10_hung_28 ?_
      exact cr_ri hx hb hr hlocks (by simp only [k_hung, b1, b2, Bool.not_true, Bool.not_false, Bool.and_true, Bool.true_and, Bool.and_false, Bool.false_and, Bool.or_true, Bool.true_or, Bool.or_false, Bool.false_or, Bool.and_self, Bool.or_self, eq_self, if_true, Bool.false_eq_true, if_false]) dX10_hung_31
    · refine lv_if_ne (tgt := 19) hx hb dX10_hung_14 (by decide) (fun c4 => absurd c4 (by decide)) (fun _ => ?_)
      refine lv_iconst (v := (-1)) hx hb dX10_hung_17 (by decide) ?_
      exact cr_ri hx hb hr hlocks (by simp only [k_hung, b1, b2, Bool.not_true, Bool.not_false, Bool.and_true, Bool.true_and, Bool.and_false, Bool.false_and, Bool.or_true, Bool.true_or, Bool.or_false, Bool.false_or, Bool.and_self, Bool.or_self, eq_self, if_true, Bool.false_eq_true, if_false]) dX10_hung_18
  · refine lv_astore_nN (lv' := [(3, .null), (0, .ref (L 0 0)), (1, .int n), (2, .int d)]) hx hb dX10_hung_5 rfl hl (by decide) rfl (fun ls hl => ?_)
    refine lv_aload_nN hx hb dX10_hung_6 rfl (lv_at hl 0 rfl) ?_
    refine lv_ifnullN (tgt := 17) hx hb dX10_hung_7 (by decide) ?_
    refine lv_iconst (v := (-1)) hx hb dX10_hung_17 (by decide) ?_
    exact cr_ri hx hb hr hlocks (by simp only [k_hung, b1, Bool.not_true, Bool.not_false, Bool.and_true, Bool.true_and, Bool.and_false, Bool.false_and, Bool.or_true, Bool.true_or, Bool.or_false, Bool.false_or, Bool.and_self, Bool.or_self, eq_self, if_true, Bool.false_eq_true, if_false]) dX10_hung_18
