set_option maxHeartbeats 1000000 in
set_option maxRecDepth 20000 in
theorem y_paper (l : Launch) (E : EV) (A : Nat → Prop) (σ : St) (L : Nat → Nat → Nat) (pe kn dy : Int32) : Ct l E yX10_paper cX10_paper 5 (some .boolean) 7 191 2 402 A [.ref (L 0 0), .int pe, .int kn, .int dy] (fun H => Cd E A σ L H ∧ InvM σ ∧ InvP σ ∧ InvJ σ ∧ InvQ σ) (fun v H => ∃ L1, v = some (.int (k_paper σ pe kn dy).1) ∧ Cd E A (k_paper σ pe kn dy).2 L1 H ∧ L1 0 0 = L 0 0) := by
  refine Ct.of (by decide +kernel) (Nat.le_of_ble_eq_true rfl) (fun pg ev s mi bel mth cd hx hb hr hml hown hu hlocks hnm hE hP hA hZ ls hl => ?_)
  have hl : lv_has ls 5 [(0, .ref (L 0 0)), (1, .int pe), (2, .int kn), (3, .int dy)] := hl
  have hS : va_S A s.heap s.heap [] := va_S.rf
  obtain ⟨hC, hI, hK, hJ, hQ⟩ := hP
  refine lv_aload_n hx hb dX10_paper_0 rfl (lv_at hl 0 rfl) ?_
  refine lv_iload_n hx hb dX10_paper_1 rfl (lv_at hl 1 rfl) ?_
  refine cr_V (As := [.int pe]) (rest := []) hx hb hml hown hu hE (x_perAt l E A σ L pe) kX10_personAt u271 (cd_reg hC) rfl rfl (⟨hC, hI⟩) ⟨Nat.le_of_ble_eq_true rfl, Nat.le_of_ble_eq_true rfl⟩ rfl hl.1 rfl (Nat.le_of_ble_eq_true rfl) ⟨Nat.le_of_ble_eq_true rfl, Nat.le_of_ble_eq_true rfl⟩ dX10_paper_2 ?_
  refine onO (fun b1 => ?_) (fun b1 => ?_)
  · refine lv_astore (lv' := [(4, .ref (L 21 pe.toNatClampNeg)), (0, .ref (L 0 0)), (1, .int pe), (2, .int kn), (3, .int dy)]) hx hb dX10_paper_5 hl (by decide) rfl (fun ls hl => ?_)
    refine lv_aload hx hb dX10_paper_7 (lv_at hl 0 rfl) ?_
    refine lv_ifnull hx hb dX10_paper_9 ?_
    refine lv_iload_n hx hb dX10_paper_12 rfl (lv_at hl 3 rfl) ?_
    refine lv_if_lt (tgt := 43) hx hb dX10_paper_13 (by decide) (fun c2 => ?_) (fun c2 => ?_)
    · refine lv_iconst (v := 0) hx hb dX10_paper_43 (by decide) ?_
      exact ct_rz hx hb hr hlocks hS (by (have hB : (c_papBad σ pe kn dy) = true := (by simp only [c_papBad, b1, decide_eq_true c2, Bool.not_true, Bool.not_false, Bool.and_true, Bool.true_and, Bool.and_false, Bool.false_and, Bool.or_true, Bool.true_or, Bool.or_false, Bool.false_or, Bool.and_self, Bool.or_self, eq_self, if_true, Bool.false_eq_true, if_false])); unfold k_paper; rw [hB]; exact ⟨L, rfl, hC, rfl⟩) (rfl) (Nat.le_of_ble_eq_true rfl) (Nat.le_of_ble_eq_true rfl) dX10_paper_44
    · refine lv_iload_n hx hb dX10_paper_16 rfl (lv_at hl 3 rfl) ?_
      refine lv_iconst (v := 3) hx hb dX10_paper_17 (by decide) ?_
      refine lv_icmp_ge (tgt := 43) hx hb dX10_paper_18 (by decide) (fun c3 => ?_) (fun c3 => ?_)
      · refine lv_iconst (v := 0) hx hb dX10_paper_43 (by decide) ?_
        exact ct_rz hx hb hr hlocks hS (by (have hB : (c_papBad σ pe kn dy) = true := (by simp only [c_papBad, b1, decide_eq_false c2, decide_eq_false (Int32.not_lt.mpr c3), Bool.not_true, Bool.not_false, Bool.and_true, Bool.true_and, Bool.and_false, Bool.false_and, Bool.or_true, Bool.true_or, Bool.or_false, Bool.false_or, Bool.and_self, Bool.or_self, eq_self, if_true, Bool.false_eq_true, if_false])); unfold k_paper; rw [hB]; exact ⟨L, rfl, hC, rfl⟩) (rfl) (Nat.le_of_ble_eq_true rfl) (Nat.le_of_ble_eq_true rfl) dX10_paper_44
      · refine lv_iload_n hx hb dX10_paper_21 rfl (lv_at hl 4 rfl) ?_
        refine lv_if_lt (tgt := 43) hx hb dX10_paper_22 (by decide) (fun c4 => ?_) (fun c4 => ?_)
        · refine lv_iconst (v := 0) hx hb dX10_paper_43 (by decide) ?_
          exact ct_rz hx hb hr hlocks hS (by (have hB : (c_papBad σ pe kn dy) = true := (by simp only [c_papBad, b1, decide_eq_false c2, decide_eq_true (Int32.not_le.mp c3), decide_eq_true c4, Bool.not_true, Bool.not_false, Bool.and_true, Bool.true_and, Bool.and_false, Bool.false_and, Bool.or_true, Bool.true_or, Bool.or_false, Bool.false_or, Bool.and_self, Bool.or_self, eq_self, if_true, Bool.false_eq_true, if_false])); unfold k_paper; rw [hB]; exact ⟨L, rfl, hC, rfl⟩) (rfl) (Nat.le_of_ble_eq_true rfl) (Nat.le_of_ble_eq_true rfl) dX10_paper_44
        · refine lv_iload_n hx hb dX10_paper_25 rfl (lv_at hl 4 rfl) ?_
          refine lv_aload_n hx hb dX10_paper_26 rfl (lv_at hl 1 rfl) ?_
          refine rd_get (k := 0) (v := .int (σ 0 0)) hx hb hown hu hE ok11 (cd_reg hC) (by decide) u137 (fun _ h => h) rfl dX10_paper_27 ?_
          refine lv_icmp_gt (tgt := 43) hx hb dX10_paper_30 (by decide) (fun c5 => ?_) (fun c5 => ?_)
          · refine lv_iconst (v := 0) hx hb dX10_paper_43 (by decide) ?_
            exact ct_rz hx hb hr hlocks hS (by (have hB : (c_papBad σ pe kn dy) = true := (by simp only [c_papBad, b1, decide_eq_false c2, decide_eq_true (Int32.not_le.mp c3), decide_eq_false c4, decide_eq_true c5, Bool.not_true, Bool.not_false, Bool.and_true, Bool.true_and, Bool.and_false, Bool.false_and, Bool.or_true, Bool.true_or, Bool.or_false, Bool.false_or, Bool.and_self, Bool.or_self, eq_self, if_true, Bool.false_eq_true, if_false])); unfold k_paper; rw [hB]; exact ⟨L, rfl, hC, rfl⟩) (rfl) (Nat.le_of_ble_eq_true rfl) (Nat.le_of_ble_eq_true rfl) dX10_paper_44
          · refine lv_aload_n hx hb dX10_paper_33 rfl (lv_at hl 1 rfl) ?_
            refine rd_get (k := 1) (v := .int (σ 15 0)) hx hb hown hu hE ok11 (cd_reg hC) (by decide) u138 (fun _ h => h) rfl dX10_paper_34 ?_
            refine lv_sipush (v := 200) hx hb dX10_paper_37 (by decide) ?_
            refine lv_icmp_lt (tgt := 45) hx hb dX10_paper_40 (by decide) (fun c6 => ?_) (fun c6 => ?_)
            · refine lv_aload hx hb dX10_paper_45 (lv_at hl 0 rfl) ?_
              refine rd_get (k := 7) (v := .ref (L 9 (6 + pe.toNatClampNeg))) hx hb hown hu hE ok10 (cd_per hC (okP_lt (isP_ok hI b1))) (by decide) u313 (fun _ h => h) rfl dX10_paper_47 ?_
              obtain ⟨nw, hnw⟩ : ∃ z : Nat, z = s.heap.size := ⟨_, rfl⟩
              have hAnw : A nw := hA nw (by rw [hnw]; exact hS.1)
              have hsz := hS.1
              have hlt : ∀ k i, cv σ k i → L k i < s.heap.size := fun k i hv => cd_lt hC hv
              refine nw_new (fs := df9) hx hb hown hu hE ok9 hS u340 dfl9 (Nat.le_of_ble_eq_true rfl) (Nat.le_of_ble_eq_true rfl) dX10_paper_50 (fun H1 ho hz oq hS => ?_)
              rw [← hnw] at ho hz oq hlt ⊢
              have hC := cd_kept hC (fun k i hv => oq _ (hlt k i hv))
              have hfr : ∀ k i, cv σ k i → L k i ≠ nw := fun k i hv => Nat.ne_of_lt (hlt k i hv)
              refine lv_dup hx hb dX10_paper_53 rfl ?_
              refine lv_iload_n hx hb dX10_paper_54 rfl (lv_at hl 3 rfl) ?_
              refine lv_iload_n hx hb dX10_paper_55 rfl (lv_at hl 4 rfl) ?_
              refine ct_I (As := [.int kn, .int dy]) (rest := [.ref nw, .ref (L 9 (6 + pe.toNatClampNeg))]) hx hb hml hown hu hE hZ hS (fun _ h => h) (fun q h => hA q (Nat.le_trans hS.1 h)) (i_Pap l E A H1 nw kn dy) kX8_init u342 (⟨rfl, ho, hAnw⟩) ⟨Nat.le_of_ble_eq_true rfl, Nat.le_of_ble_eq_true rfl⟩ rfl hl.1 rfl (Nat.le_of_ble_eq_true rfl) ⟨Nat.le_of_ble_eq_true rfl, Nat.le_of_ble_eq_true rfl⟩ dX10_paper_56 (fun v7 H1 locs1 hR hS hz hk => ?_)
              obtain ⟨rfl, ho, oq⟩ := hR
              have hC := cd_kept hC (fun k i hv => oq _ (by have := hlt k i hv; omega) (hfr k i hv))
              refine ct_V (As := [.ref nw]) (rest := []) hx hb hml hown hu hE hZ hS (fun _ h => h) (fun q h => hA q (Nat.le_trans hS.1 h)) (x_add l E A H1 σ L 26 15 (6 + pe.toNatClampNeg) nw ([.int kn, .int dy])) kJx4a65c_add_9ea2d u335 ((cd_lex hC (j := (6 + pe.toNatClampNeg)) (by have := okP_lt (isP_ok hI b1); omega)).choose_spec) rfl rfl (⟨rfl, hC, hI, hK, Or.inr (Or.inr (Or.inr (Or.inr (Or.inr (Or.inr ⟨rfl, rfl, by omega⟩))))), (by have := okP_lt (isP_ok hI b1); omega), (by rw [lc_p]; exact pq_lt hK hQ (isP_ok hI b1) c6), (by rw [show kci 26 = 9 from rfl]; exact ho), hfr⟩) ⟨Nat.le_of_ble_eq_true rfl, Nat.le_of_ble_eq_true rfl⟩ rfl hl.1 rfl (Nat.le_of_ble_eq_true rfl) ⟨Nat.le_of_ble_eq_true rfl, Nat.le_of_ble_eq_true rfl⟩ dX10_paper_59 (fun v8 H1 locs1 hR hS hz hk => ?_)
              obtain ⟨rfl, hg⟩ := hR
              refine lv_pop hx hb dX10_paper_62 rfl ?_
              have hop := ho
              have hreg := gr_reg hC (by have := okP_lt (isP_ok hI b1); omega) hg
              refine lv_aload_n hx hb dX10_paper_63 rfl (lv_at hl 1 rfl) ?_
              refine lv_dup hx hb dX10_paper_64 rfl ?_
              refine rd_get (k := 1) (v := .int (σ 15 0)) hx hb hown hu hE ok11 (hreg) (by decide) u138 (fun _ h => h) rfl dX10_paper_65 ?_
              refine lv_iconst (v := 1) hx hb dX10_paper_68 (by decide) ?_
              refine lv_iadd hx hb dX10_paper_69 ?_
              refine wr_put (k := 1) (v := .int ((σ 15 0) + 1)) hx hb hown hu hE ok11 hS (cd_A hC (cv_f (by omega))) (hreg) (by decide) u138 (Or.inl rfl) rfl rfl rfl (Nat.le_of_ble_eq_true rfl) dX10_paper_70 (fun H1 locs1 ho hz oq hS => ?_)
              refine lv_iconst (v := 1) hx hb dX10_paper_73 (by decide) ?_
              exact ct_rz hx hb hr hlocks hS (by (have hB : (c_papBad σ pe kn dy) = false := (by simp only [c_papBad, b1, decide_eq_false c2, decide_eq_true (Int32.not_le.mp c3), decide_eq_false c4, decide_eq_false c5, decide_eq_true c6, Bool.not_true, Bool.not_false, Bool.and_true, Bool.true_and, Bool.and_false, Bool.false_and, Bool.or_true, Bool.true_or, Bool.or_false, Bool.false_or, Bool.and_self, Bool.or_self, eq_self, if_true, Bool.false_eq_true, if_false])); obtain ⟨L1, c1, c2⟩ := cl_pap hC hI hK hJ (isP_ok hI b1) (lt_cnt (t := 15) hI.1.2.2.2.1 c6 rfl) (pq_lt hK hQ (isP_ok hI b1) c6) hg hAnw hfr hop ho oq; unfold k_paper; rw [hB]; exact ⟨L1, rfl, c1, c2⟩) (rfl) (Nat.le_of_ble_eq_true rfl) (Nat.le_of_ble_eq_true rfl) dX10_paper_74
            · refine lv_iconst (v := 0) hx hb dX10_paper_43 (by decide) ?_
              exact ct_rz hx hb hr hlocks hS (by (have hB : (c_papBad σ pe kn dy) = true := (by simp only [c_papBad, b1, decide_eq_false c2, decide_eq_true (Int32.not_le.mp c3), decide_eq_false c4, decide_eq_false c5, decide_eq_false c6, Bool.not_true, Bool.not_false, Bool.and_true, Bool.true_and, Bool.and_false, Bool.false_and, Bool.or_true, Bool.true_or, Bool.or_false, Bool.false_or, Bool.and_self, Bool.or_self, eq_self, if_true, Bool.false_eq_true, if_false])); unfold k_paper; rw [hB]; exact ⟨L, rfl, hC, rfl⟩) (rfl) (Nat.le_of_ble_eq_true rfl) (Nat.le_of_ble_eq_true rfl) dX10_paper_44
  · refine lv_astoreN (lv' := [(4, .null), (0, .ref (L 0 0)), (1, .int pe), (2, .int kn), (3, .int dy)]) hx hb dX10_paper_5 hl (by decide) rfl (fun ls hl => ?_)
    refine lv_aloadN hx hb dX10_paper_7 (lv_at hl 0 rfl) ?_
    refine lv_ifnullN (tgt := 43) hx hb dX10_paper_9 (by decide) ?_
    refine lv_iconst (v := 0) hx hb dX10_paper_43 (by decide) ?_
    exact ct_rz hx hb hr hlocks hS (by (have hB : (c_papBad σ pe kn dy) = true := (by simp only [c_papBad, b1, Bool.not_true, Bool.not_false, Bool.and_true, Bool.true_and, Bool.and_false, Bool.false_and, Bool.or_true, Bool.true_or, Bool.or_false, Bool.false_or, Bool.and_self, Bool.or_self, eq_self, if_true, Bool.false_eq_true, if_false])); unfold k_paper; rw [hB]; exact ⟨L, rfl, hC, rfl⟩) (rfl) (Nat.le_of_ble_eq_true rfl) (Nat.le_of_ble_eq_true rfl) dX10_paper_44
set_option maxHeartbeats 1000000 in
set_option maxRecDepth 20000 in
theorem y_post (l : Launch) (E : EV) (A : Nat → Prop) (σ : St) (L : Nat → Nat → Nat) (a b : Int32) : Ct l E yX10_post cX10_post 6 (some .int) 7 191 2 408 A [.ref (L 0 0), .int a, .int b] (fun H => Cd E A σ L H ∧ InvM σ ∧ InvP σ ∧ InvJ σ ∧ InvZ σ) (fun v H => ∃ L1, v = some (.int (k_post σ a b).1) ∧ Cd E A (k_post σ a b).2 L1 H ∧ L1 0 0 = L 0 0) := by
  refine Ct.of (by decide +kernel) (Nat.le_of_ble_eq_true rfl) (fun pg ev s mi bel mth cd hx hb hr hml hown hu hlocks hnm hE hP hA hZ ls hl => ?_)
  have hl : lv_has ls 6 [(0, .ref (L 0 0)), (1, .int a), (2, .int b)] := hl
  have hS : va_S A s.heap s.heap [] := va_S.rf
  obtain ⟨hC, hI, hK, hJ, hZ_⟩ := hP
  refine lv_aload_n hx hb dX10_post_0 rfl (lv_at hl 0 rfl) ?_
  refine lv_iload_n hx hb dX10_post_1 rfl (lv_at hl 1 rfl) ?_
  refine cr_V (As := [.int a]) (rest := []) hx hb hml hown hu hE (x_perAt l E A σ L a) kX10_personAt u271 (cd_reg hC) rfl rfl (⟨hC, hI⟩) ⟨Nat.le_of_ble_eq_true rfl, Nat.le_of_ble_eq_true rfl⟩ rfl hl.1 rfl (Nat.le_of_ble_eq_true rfl) ⟨Nat.le_of_ble_eq_true rfl, Nat.le_of_ble_eq_true rfl⟩ dX10_post_2 ?_
  refine onO (fun b1 => ?_) (fun b1 => ?_)
  · refine lv_astore_n (lv' := [(3, .ref (L 21 a.toNatClampNeg)), (0, .ref (L 0 0)), (1, .int a), (2, .int b)]) hx hb dX10_post_5 rfl hl (by decide) rfl (fun ls hl => ?_)
    refine lv_aload_n hx hb dX10_post_6 rfl (lv_at hl 1 rfl) ?_
    refine lv_iload_n hx hb dX10_post_7 rfl (lv_at hl 3 rfl) ?_
    refine cr_V (As := [.int b]) (rest := []) hx hb hml hown hu hE (x_perAt l E A σ L b) kX10_personAt u271 (cd_reg hC) rfl rfl (⟨hC, hI⟩) ⟨Nat.le_of_ble_eq_true rfl, Nat.le_of_ble_eq_true rfl⟩ rfl hl.1 rfl (Nat.le_of_ble_eq_true rfl) ⟨Nat.le_of_ble_eq_true rfl, Nat.le_of_ble_eq_true rfl⟩ dX10_post_8 ?_
    refine onO (fun b2 => ?_) (fun b2 => ?_)
    · refine lv_astore (lv' := [(4, .ref (L 21 b.toNatClampNeg)), (3, .ref (L 21 a.toNatClampNeg)), (0, .ref (L 0 0)), (1, .int a), (2, .int b)]) hx hb dX10_post_11 hl (by decide) rfl (fun ls hl => ?_)
      refine lv_aload_n hx hb dX10_post_13 rfl (lv_at hl 1 rfl) ?_
      refine lv_ifnull hx hb dX10_post_14 ?_
      refine lv_aload hx hb dX10_post_17 (lv_at hl 0 rfl) ?_
      refine lv_ifnull hx hb dX10_post_19 ?_
      refine lv_iload_n hx hb dX10_post_22 rfl (lv_at hl 3 rfl) ?_
      refine lv_iload_n hx hb dX10_post_23 rfl (lv_at hl 4 rfl) ?_
      refine lv_icmp_eq (tgt := 39) hx hb dX10_post_24 (by decide) (fun c3 => ?_) (fun c3 => ?_)
      · refine lv_iconst (v := (-1)) hx hb dX10_post_39 (by decide) ?_
        exact ct_ri hx hb hr hlocks hS (by (have hB : (c_postBad σ a b) = true := (by simp only [c_postBad, b1, b2, decide_eq_true c3, Bool.not_true, Bool.not_false, Bool.and_true, Bool.true_and, Bool.and_false, Bool.false_and, Bool.or_true, Bool.true_or, Bool.or_false, Bool.false_or, Bool.and_self, Bool.or_self, eq_self, if_true, Bool.false_eq_true, if_false])); unfold k_post; rw [hB]; exact ⟨L, rfl, hC, rfl⟩) (Nat.le_of_ble_eq_true rfl) (Nat.le_of_ble_eq_true rfl) dX10_post_40
      · refine lv_aload_n hx hb dX10_post_27 rfl (lv_at hl 2 rfl) ?_
        refine rd_get (k := 7) (v := .ref (L 9 2)) hx hb hown hu hE ok11 (cd_reg hC) (by decide) u144 (fun _ h => h) rfl dX10_post_28 ?_
        refine cr_V (As := []) (rest := []) hx hb hml hown hu hE (c_LS2 l E A σ L) kJx4a65c_size_8abf5 u266 ((cd_lex hC (j := 2) (by omega)).choose_spec) rfl rfl (⟨hC, hI⟩) ⟨Nat.le_of_ble_eq_true rfl, Nat.le_of_ble_eq_true rfl⟩ rfl hl.1 rfl (Nat.le_of_ble_eq_true rfl) ⟨Nat.le_of_ble_eq_true rfl, Nat.le_of_ble_eq_true rfl⟩ dX10_post_31 ?_
        refine lv_bipush (v := 60) hx hb dX10_post_34 (by decide) ?_
        refine lv_icmp_lt (tgt := 41) hx hb dX10_post_36 (by decide) (fun c4 => ?_) (fun c4 => ?_)
        · refine lv_aload_n hx hb dX10_post_41 rfl (lv_at hl 1 rfl) ?_
          refine rd_get (k := 8) (v := va_rf (rfo L (gA σ 10 a))) hx hb hown hu hE ok10 (cd_per hC (okP_lt (isP_ok hI b1))) (by decide) u315 (fun _ h => h) rfl dX10_post_42 ?_
          refine onQ (fun q5 => ?_) (fun q5 => ?_)
          · refine lv_ifnonnullN hx hb dX10_post_45 ?_
            refine lv_aload hx hb dX10_post_48 (lv_at hl 0 rfl) ?_
            refine rd_get (k := 8) (v := va_rf (rfo L (gA σ 10 b))) hx hb hown hu hE ok10 (cd_per hC (okP_lt (isP_ok hI b2))) (by decide) u315 (fun _ h => h) rfl dX10_post_50 ?_
            refine onQ (fun q6 => ?_) (fun q6 => ?_)
            · refine lv_ifnonnullN hx hb dX10_post_53 ?_
              refine lv_aload_n hx hb dX10_post_56 rfl (lv_at hl 2 rfl) ?_
              refine lv_aload_n hx hb dX10_post_57 rfl (lv_at hl 1 rfl) ?_
              refine lv_aload hx hb dX10_post_58 (lv_at hl 0 rfl) ?_
              refine cr_V (As := [.ref (L 21 a.toNatClampNeg), .ref (L 21 b.toNatClampNeg)]) (rest := []) hx hb hml hown hu hE (x_hasON l E A σ L a b) kX10_hasOpenNotice u433 (cd_reg hC) rfl rfl (⟨hC, hI, (isP_ok hI b1), (isP_ok hI b2)⟩) ⟨Nat.le_of_ble_eq_true rfl, Nat.le_of_ble_eq_true rfl⟩ rfl hl.1 rfl (Nat.le_of_ble_eq_true rfl) ⟨Nat.le_of_ble_eq_true rfl, Nat.le_of_ble_eq_true rfl⟩ dX10_post_60 ?_
              refine onB (fun b7 => ?_) (fun b7 => ?_)
              · refine lv_if_eq (tgt := 68) hx hb dX10_post_63 (by decide) (fun c8 => absurd c8 (by decide)) (fun _ => ?_)
                refine lv_iconst (v := (-1)) hx hb dX10_post_66 (by decide) ?_
                exact ct_ri hx hb hr hlocks hS (by (have hB : (c_postBad σ a b) = true := (by simp only [c_postBad, b1, b2, decide_eq_false c3, decide_eq_true c4, decide_eq_true q5, decide_eq_true q6, b7, Bool.not_true, Bool.not_false, Bool.and_true, Bool.true_and, Bool.and_false, Bool.false_and, Bool.or_true, Bool.true_or, Bool.or_false, Bool.false_or, Bool.and_self, Bool.or_self, eq_self, if_true, Bool.false_eq_true, if_false])); unfold k_post; rw [hB]; exact ⟨L, rfl, hC, rfl⟩) (Nat.le_of_ble_eq_true rfl) (Nat.le_of_ble_eq_true rfl) dX10_post_67
              · refine lv_if_eq (tgt := 68) hx hb dX10_post_63 (by decide) (fun _ => ?_) (fun c9 => absurd (by decide) c9)
                refine lv_aload_n hx hb dX10_post_68 rfl (lv_at hl 2 rfl) ?_
                refine rd_get (k := 7) (v := .ref (L 9 2)) hx hb hown hu hE ok11 (cd_reg hC) (by decide) u144 (fun _ h => h) rfl dX10_post_69 ?_
                refine cr_V (As := []) (rest := []) hx hb hml hown hu hE (c_LS2 l E A σ L) kJx4a65c_size_8abf5 u266 ((cd_lex hC (j := 2) (by omega)).choose_spec) rfl rfl (⟨hC, hI⟩) ⟨Nat.le_of_ble_eq_true rfl, Nat.le_of_ble_eq_true rfl⟩ rfl hl.1 rfl (Nat.le_of_ble_eq_true rfl) ⟨Nat.le_of_ble_eq_true rfl, Nat.le_of_ble_eq_true rfl⟩ dX10_post_72 ?_
                refine lv_istore (lv' := [(5, .int (σ 23 0)), (4, .ref (L 21 b.toNatClampNeg)), (3, .ref (L 21 a.toNatClampNeg)), (0, .ref (L 0 0)), (1, .int a), (2, .int b)]) hx hb dX10_post_75 hl (by decide) rfl (fun ls hl => ?_)
                refine lv_aload_n hx hb dX10_post_77 rfl (lv_at hl 3 rfl) ?_
                refine rd_get (k := 7) (v := .ref (L 9 2)) hx hb hown hu hE ok11 (cd_reg hC) (by decide) u144 (fun _ h => h) rfl dX10_post_78 ?_
                obtain ⟨nw, hnw⟩ : ∃ z : Nat, z = s.heap.size := ⟨_, rfl⟩
                have hAnw : A nw := hA nw (by rw [hnw]; exact hS.1)
                have hsz := hS.1
                have hlt : ∀ k i, cv σ k i → L k i < s.heap.size := fun k i hv => cd_lt hC hv
                refine nw_new (fs := df7) hx hb hown hu hE ok7 hS u437 dfl7 (Nat.le_of_ble_eq_true rfl) (Nat.le_of_ble_eq_true rfl) dX10_post_81 (fun H1 ho hz oq hS => ?_)
                rw [← hnw] at ho hz oq hlt ⊢
                have hC := cd_kept hC (fun k i hv => oq _ (hlt k i hv))
                have hfr : ∀ k i, cv σ k i → L k i ≠ nw := fun k i hv => Nat.ne_of_lt (hlt k i hv)
                refine lv_dup hx hb dX10_post_84 rfl ?_
                refine lv_iload hx hb dX10_post_85 (lv_at hl 0 rfl) ?_
                refine lv_aload_n hx hb dX10_post_87 rfl (lv_at hl 2 rfl) ?_
                refine lv_aload hx hb dX10_post_88 (lv_at hl 1 rfl) ?_
                refine lv_aload_n hx hb dX10_post_90 rfl (lv_at hl 3 rfl) ?_
                refine rd_get (k := 0) (v := .int (σ 0 0)) hx hb hown hu hE ok11 (cd_reg hC) (by decide) u137 (fun _ h => h) rfl dX10_post_91 ?_
                refine ct_I (As := [.int (σ 23 0), .ref (L 21 a.toNatClampNeg), .ref (L 21 b.toNatClampNeg), .int (σ 0 0)]) (rest := [.ref nw, .ref (L 9 2)]) hx hb hml hown hu hE hZ hS (fun _ h => h) (fun q h => hA q (Nat.le_trans hS.1 h)) (i_Not l E A H1 nw (σ 23 0) (L 21 a.toNatClampNeg) (L 21 b.toNatClampNeg) (σ 0 0)) kX6_init u443 (⟨rfl, ho, hAnw⟩) ⟨Nat.le_of_ble_eq_true rfl, Nat.le_of_ble_eq_true rfl⟩ rfl hl.1 rfl (Nat.le_of_ble_eq_true rfl) ⟨Nat.le_of_ble_eq_true rfl, Nat.le_of_ble_eq_true rfl⟩ dX10_post_94 (fun v10 H1 locs1 hR hS hz hk => ?_)
                obtain ⟨rfl, ho, oq⟩ := hR
                have hC := cd_kept hC (fun k i hv => oq _ (by have := hlt k i hv; omega) (hfr k i hv))
                refine ct_V (As := [.ref nw]) (rest := []) hx hb hml hown hu hE hZ hS (fun _ h => h) (fun q h => hA q (Nat.le_trans hS.1 h)) (x_add l E A H1 σ L 22 23 2 nw ([.int (σ 23 0), .ref (L 21 a.toNatClampNeg), .ref (L 21 b.toNatClampNeg), .int (σ 0 0), .int 0, .int 0, .int (-1), .int (-1)])) kJx4a65c_add_9ea2d u335 ((cd_lex hC (j := 2) (by omega)).choose_spec) rfl rfl (⟨rfl, hC, hI, hK, Or.inr (Or.inr (Or.inl ⟨rfl, rfl, rfl⟩)), (by omega), (Nat.lt_of_lt_of_le (lt_cnt (t := 23) hI.1.2.2.2.2.1 c4 (K := 60) rfl) (by decide)), (by rw [show kci 22 = 7 from rfl]; exact ho), hfr⟩) ⟨Nat.le_of_ble_eq_true rfl, Nat.le_of_ble_eq_true rfl⟩ rfl hl.1 rfl (Nat.le_of_ble_eq_true rfl) ⟨Nat.le_of_ble_eq_true rfl, Nat.le_of_ble_eq_true rfl⟩ dX10_post_97 (fun v11 H1 locs1 hR hS hz hk => ?_)
                obtain ⟨rfl, hg⟩ := hR
                refine lv_pop hx hb dX10_post_100 rfl ?_
                refine lv_iload hx hb dX10_post_101 (lv_at hl 0 rfl) ?_
                exact ct_ri hx hb hr hlocks hS (by (have hB : (c_postBad σ a b) = false := (by simp only [c_postBad, b1, b2, decide_eq_false c3, decide_eq_true c4, decide_eq_true q5, decide_eq_true q6, b7, Bool.not_true, Bool.not_false, Bool.and_true, Bool.true_and, Bool.and_false, Bool.false_and, Bool.or_true, Bool.true_or, Bool.or_false, Bool.false_or, Bool.and_self, Bool.or_self, eq_self, if_true, Bool.false_eq_true, if_false])); obtain ⟨L1, c1, c2⟩ := cl_not hC hI hK hJ hZ_ (isP_ok hI b1) (isP_ok hI b2) hg hAnw hfr ho; unfold k_post; rw [hB]; exact ⟨L1, rfl, c1, c2⟩) (Nat.le_of_ble_eq_true rfl) (Nat.le_of_ble_eq_true rfl) dX10_post_103
            · refine lv_ifnonnull (tgt := 66) hx hb dX10_post_53 (by decide) ?_
              refine lv_iconst (v := (-1)) hx hb dX10_post_66 (by decide) ?_
              exact ct_ri hx hb hr hlocks hS (by (have hB : (c_postBad σ a b) = true := (by simp only [c_postBad, b1, b2, decide_eq_false c3, decide_eq_true c4, decide_eq_true q5, decide_eq_false q6, Bool.not_true, Bool.not_false, Bool.and_true, Bool.true_and, Bool.and_false, Bool.false_and, Bool.or_true, Bool.true_or, Bool.or_false, Bool.false_or, Bool.and_self, Bool.or_self, eq_self, if_true, Bool.false_eq_true, if_false])); unfold k_post; rw [hB]; exact ⟨L, rfl, hC, rfl⟩) (Nat.le_of_ble_eq_true rfl) (Nat.le_of_ble_eq_true rfl) dX10_post_67
          · refine lv_ifnonnull (tgt := 66) hx hb dX10_post_45 (by decide) ?_
            refine lv_iconst (v := (-1)) hx hb dX10_post_66 (by decide) ?_
            exact ct_ri hx hb hr hlocks hS (by (have hB : (c_postBad σ a b) = true := (by simp only [c_postBad, b1, b2, decide_eq_false c3, decide_eq_true c4, decide_eq_false q5, Bool.not_true, Bool.not_false, Bool.and_true, Bool.true_and, Bool.and_false, Bool.false_and, Bool.or_true, Bool.true_or, Bool.or_false, Bool.false_or, Bool.and_self, Bool.or_self, eq_self, if_true, Bool.false_eq_true, if_false])); unfold k_post; rw [hB]; exact ⟨L, rfl, hC, rfl⟩) (Nat.le_of_ble_eq_true rfl) (Nat.le_of_ble_eq_true rfl) dX10_post_67
        · refine lv_iconst (v := (-1)) hx hb dX10_post_39 (by decide) ?_
          exact ct_ri hx hb hr hlocks hS (by (have hB : (c_postBad σ a b) = true := (by simp only [c_postBad, b1, b2, decide_eq_false c3, decide_eq_false c4, Bool.not_true, Bool.not_false, Bool.and_true, Bool.true_and, Bool.and_false, Bool.false_and, Bool.or_true, Bool.true_or, Bool.or_false, Bool.false_or, Bool.and_self, Bool.or_self, eq_self, if_true, Bool.false_eq_true, if_false])); unfold k_post; rw [hB]; exact ⟨L, rfl, hC, rfl⟩) (Nat.le_of_ble_eq_true rfl) (Nat.le_of_ble_eq_true rfl) dX10_post_40
    · refine lv_astoreN (lv' := [(4, .null), (3, .ref (L 21 a.toNatClampNeg)), (0, .ref (L 0 0)), (1, .int a), (2, .int b)]) hx hb dX10_post_11 hl (by decide) rfl (fun ls hl => ?_)
      refine lv_aload_n hx hb dX10_post_13 rfl (lv_at hl 1 rfl) ?_
      refine lv_ifnull hx hb dX10_post_14 ?_
      refine lv_aloadN hx hb dX10_post_17 (lv_at hl 0 rfl) ?_
      refine lv_ifnullN (tgt := 39) hx hb dX10_post_19 (by decide) ?_
      refine lv_iconst (v := (-1)) hx hb dX10_post_39 (by decide) ?_
      exact ct_ri hx hb hr hlocks hS (by (have hB : (c_postBad σ a b) = true := (by simp only [c_postBad, b1, b2, Bool.not_true, Bool.not_false, Bool.and_true, Bool.true_and, Bool.and_false, Bool.false_and, Bool.or_true, Bool.true_or, Bool.or_false, Bool.false_or, Bool.and_self, Bool.or_self, eq_self, if_true, Bool.false_eq_true, if_false])); unfold k_post; rw [hB]; exact ⟨L, rfl, hC, rfl⟩) (Nat.le_of_ble_eq_true rfl) (Nat.le_of_ble_eq_true rfl) dX10_post_40
  · refine lv_astore_nN (lv' := [(3, .null), (0, .ref (L 0 0)), (1, .int a), (2, .int b)]) hx hb dX10_post_5 rfl hl (by decide) rfl (fun ls hl => ?_)
    refine lv_aload_n hx hb dX10_post_6 rfl (lv_at hl 1 rfl) ?_
    refine lv_iload_n hx hb dX10_post_7 rfl (lv_at hl 3 rfl) ?_
    refine cr_V (As := [.int b]) (rest := []) hx hb hml hown hu hE (x_perAt l E A σ L b) kX10_personAt u271 (cd_reg hC) rfl rfl (⟨hC, hI⟩) ⟨Nat.le_of_ble_eq_true rfl, Nat.le_of_ble_eq_true rfl⟩ rfl hl.1 rfl (Nat.le_of_ble_eq_true rfl) ⟨Nat.le_of_ble_eq_true rfl, Nat.le_of_ble_eq_true rfl⟩ dX10_post_8 ?_
    refine onO (fun b12 => ?_) (fun b12 => ?_)
    · refine lv_astore (lv' := [(4, .ref (L 21 b.toNatClampNeg)), (3, .null), (0, .ref (L 0 0)), (1, .int a), (2, .int b)]) hx hb dX10_post_11 hl (by decide) rfl (fun ls hl => ?_)
      refine lv_aload_nN hx hb dX10_post_13 rfl (lv_at hl 1 rfl) ?_
      refine lv_ifnullN (tgt := 39) hx hb dX10_post_14 (by decide) ?_
      refine lv_iconst (v := (-1)) hx hb dX10_post_39 (by decide) ?_
      exact ct_ri hx hb hr hlocks hS (by (have hB : (c_postBad σ a b) = true := (by simp only [c_postBad, b1, b12, Bool.not_true, Bool.not_false, Bool.and_true, Bool.true_and, Bool.and_false, Bool.false_and, Bool.or_true, Bool.true_or, Bool.or_false, Bool.false_or, Bool.and_self, Bool.or_self, eq_self, if_true, Bool.false_eq_true, if_false])); unfold k_post; rw [hB]; exact ⟨L, rfl, hC, rfl⟩) (Nat.le_of_ble_eq_true rfl) (Nat.le_of_ble_eq_true rfl) dX10_post_40
    · refine lv_astoreN (lv' := [(4, .null), (3, .null), (0, .ref (L 0 0)), (1, .int a), (2, .int b)]) hx hb dX10_post_11 hl (by decide) rfl (fun ls hl => ?_)
      refine lv_aload_nN hx hb dX10_post_13 rfl (lv_at hl 1 rfl) ?_
      refine lv_ifnullN (tgt := 39) hx hb dX10_post_14 (by decide) ?_
      refine lv_iconst (v := (-1)) hx hb dX10_post_39 (by decide) ?_
      exact ct_ri hx hb hr hlocks hS (by (have hB : (c_postBad σ a b) = true := (by simp only [c_postBad, b1, b12, Bool.not_true, Bool.not_false, Bool.and_true, Bool.true_and, Bool.and_false, Bool.false_and, Bool.or_true, Bool.true_or, Bool.or_false, Bool.false_or, Bool.and_self, Bool.or_self, eq_self, if_true, Bool.false_eq_true, if_false])); unfold k_post; rw [hB]; exact ⟨L, rfl, hC, rfl⟩) (Nat.le_of_ble_eq_true rfl) (Nat.le_of_ble_eq_true rfl) dX10_post_40
set_option maxHeartbeats 1000000 in
set_option maxRecDepth 20000 in
theorem y_object (l : Launch) (E : EV) (A : Nat → Prop) (σ : St) (L : Nat → Nat → Nat) (n : Int32) : Ct l E yX10_object cX10_object 5 (some .int) 7 191 2 402 A [.ref (L 0 0), .int n] (fun H => Cd E A σ L H ∧ InvM σ ∧ InvP σ ∧ InvJ σ ∧ InvZ σ ∧ InvL σ) (fun v H => ∃ L1, v = some (.int (k_object σ n).1) ∧ Cd E A (k_object σ n).2 L1 H ∧ L1 0 0 = L 0 0) := by
  refine Ct.of (by decide +kernel) (Nat.le_of_ble_eq_true rfl) (fun pg ev s mi bel mth cd hx hb hr hml hown hu hlocks hnm hE hP hA hZ ls hl => ?_)
  have hl : lv_has ls 5 [(0, .ref (L 0 0)), (1, .int n)] := hl
  have hS : va_S A s.heap s.heap [] := va_S.rf
  obtain ⟨hC, hI, hK, hJ, hZ_, hL⟩ := hP
  refine lv_aload_n hx hb dX10_object_0 rfl (lv_at hl 0 rfl) ?_
  refine lv_iload_n hx hb dX10_object_1 rfl (lv_at hl 1 rfl) ?_
  refine cr_V (As := [.int n]) (rest := []) hx hb hml hown hu hE (x_notAt l E A σ L n) kX10_noticeAt u487 (cd_reg hC) rfl rfl (⟨hC, hI⟩) ⟨Nat.le_of_ble_eq_true rfl, Nat.le_of_ble_eq_true rfl⟩ rfl hl.1 rfl (Nat.le_of_ble_eq_true rfl) ⟨Nat.le_of_ble_eq_true rfl, Nat.le_of_ble_eq_true rfl⟩ dX10_object_2 ?_
  refine onO (fun b1 => ?_) (fun b1 => ?_)
  · refine lv_astore_n (lv' := [(2, .ref (L 22 n.toNatClampNeg)), (0, .ref (L 0 0)), (1, .int n)]) hx hb dX10_object_5 rfl hl (by decide) rfl (fun ls hl => ?_)
    refine lv_aload_n hx hb dX10_object_6 rfl (lv_at hl 0 rfl) ?_
    refine lv_ifnull hx hb dX10_object_7 ?_
    refine lv_aload_n hx hb dX10_object_10 rfl (lv_at hl 0 rfl) ?_
    refine rd_get (k := 4) (v := .int (gA σ 20 n)) hx hb hown hu hE ok7 (cd_not hC (okN_lt (isN_ok hI b1))) (by decide) u458 (fun _ h => h) rfl dX10_object_11 ?_
    refine lv_if_ne (tgt := 29) hx hb dX10_object_14 (by decide) (fun c2 => ?_) (fun c2 => ?_)
    · refine lv_iconst (v := (-1)) hx hb dX10_object_29 (by decide) ?_
      exact ct_ri hx hb hr hlocks hS (by (have hB : (c_objBad σ n) = true := (by simp only [c_objBad, b1, decide_eq_false c2, Bool.not_true, Bool.not_false, Bool.and_true, Bool.true_and, Bool.and_false, Bool.false_and, Bool.or_true, Bool.true_or, Bool.or_false, Bool.false_or, Bool.and_self, Bool.or_self, eq_self, if_true, Bool.false_eq_true, if_false])); unfold k_object; rw [hB]; exact ⟨L, rfl, hC, rfl⟩) (Nat.le_of_ble_eq_true rfl) (Nat.le_of_ble_eq_true rfl) dX10_object_30
    · refine lv_aload_n hx hb dX10_object_17 rfl (lv_at hl 1 rfl) ?_
      refine rd_get (k := 8) (v := .ref (L 9 3)) hx hb hown hu hE ok11 (cd_reg hC) (by decide) u145 (fun _ h => h) rfl dX10_object_18 ?_
      refine cr_V (As := []) (rest := []) hx hb hml hown hu hE (c_LS3 l E A σ L) kJx4a65c_size_8abf5 u266 ((cd_lex hC (j := 3) (by omega)).choose_spec) rfl rfl (⟨hC, hI⟩) ⟨Nat.le_of_ble_eq_true rfl, Nat.le_of_ble_eq_true rfl⟩ rfl hl.1 rfl (Nat.le_of_ble_eq_true rfl) ⟨Nat.le_of_ble_eq_true rfl, Nat.le_of_ble_eq_true rfl⟩ dX10_object_21 ?_
      refine lv_bipush (v := 60) hx hb dX10_object_24 (by decide) ?_
      refine lv_icmp_lt (tgt := 31) hx hb dX10_object_26 (by decide) (fun c3 => ?_) (fun c3 => ?_)
      · refine lv_aload_n hx hb dX10_object_31 rfl (lv_at hl 1 rfl) ?_
        refine lv_aload_n hx hb dX10_object_32 rfl (lv_at hl 0 rfl) ?_
        refine cr_V (As := [.ref (L 22 n.toNatClampNeg)]) (rest := []) hx hb hml hown hu hE (x_firstR l E A σ L n) kX10_firstRipeDay u517 (cd_reg hC) rfl rfl (⟨hC, hI, (isN_ok hI b1), hL⟩) ⟨Nat.le_of_ble_eq_true rfl, Nat.le_of_ble_eq_true rfl⟩ rfl hl.1 rfl (Nat.le_of_ble_eq_true rfl) ⟨Nat.le_of_ble_eq_true rfl, Nat.le_of_ble_eq_true rfl⟩ dX10_object_33 ?_
        refine lv_istore_n (lv' := [(3, .int (m_ripe σ n)), (2, .ref (L 22 n.toNatClampNeg)), (0, .ref (L 0 0)), (1, .int n)]) hx hb dX10_object_36 rfl hl (by decide) rfl (fun ls hl => ?_)
        refine lv_iload_n hx hb dX10_object_37 rfl (lv_at hl 0 rfl) ?_
        refine lv_iconst (v := (-1)) hx hb dX10_object_38 (by decide) ?_
        refine lv_icmp_eq (tgt := 52) hx hb dX10_object_39 (by decide) (fun c4 => ?_) (fun c4 => ?_)
        · refine lv_aload_n hx hb dX10_object_52 rfl (lv_at hl 2 rfl) ?_
          refine rd_get (k := 8) (v := .ref (L 9 3)) hx hb hown hu hE ok11 (cd_reg hC) (by decide) u145 (fun _ h => h) rfl dX10_object_53 ?_
          refine cr_V (As := []) (rest := []) hx hb hml hown hu hE (c_LS3 l E A σ L) kJx4a65c_size_8abf5 u266 ((cd_lex hC (j := 3) (by omega)).choose_spec) rfl rfl (⟨hC, hI⟩) ⟨Nat.le_of_ble_eq_true rfl, Nat.le_of_ble_eq_true rfl⟩ rfl hl.1 rfl (Nat.le_of_ble_eq_true rfl) ⟨Nat.le_of_ble_eq_true rfl, Nat.le_of_ble_eq_true rfl⟩ dX10_object_56 ?_
          refine lv_istore (lv' := [(4, .int (σ 26 0)), (3, .int (m_ripe σ n)), (2, .ref (L 22 n.toNatClampNeg)), (0, .ref (L 0 0)), (1, .int n)]) hx hb dX10_object_59 hl (by decide) rfl (fun ls hl => ?_)
          refine lv_aload_n hx hb dX10_object_61 rfl (lv_at hl 3 rfl) ?_
          refine rd_get (k := 8) (v := .ref (L 9 3)) hx hb hown hu hE ok11 (cd_reg hC) (by decide) u145 (fun _ h => h) rfl dX10_object_62 ?_
          obtain ⟨nw, hnw⟩ : ∃ z : Nat, z = s.heap.size := ⟨_, rfl⟩
          have hAnw : A nw := hA nw (by rw [hnw]; exact hS.1)
          have hsz := hS.1
          have hlt : ∀ k i, cv σ k i → L k i < s.heap.size := fun k i hv => cd_lt hC hv
          refine nw_new (fs := df8) hx hb hown hu hE ok8 hS u530 dfl8 (Nat.le_of_ble_eq_true rfl) (Nat.le_of_ble_eq_true rfl) dX10_object_65 (fun H1 ho hz oq hS => ?_)
          rw [← hnw] at ho hz oq hlt ⊢
          have hC := cd_kept hC (fun k i hv => oq _ (hlt k i hv))
          have hfr : ∀ k i, cv σ k i → L k i ≠ nw := fun k i hv => Nat.ne_of_lt (hlt k i hv)
          refine lv_dup hx hb dX10_object_68 rfl ?_
          refine lv_aload_n hx hb dX10_object_69 rfl (lv_at hl 2 rfl) ?_
          refine ct_I (As := [.ref (L 22 n.toNatClampNeg)]) (rest := [.ref nw, .ref (L 9 3)]) hx hb hml hown hu hE hZ hS (fun _ h => h) (fun q h => hA q (Nat.le_trans hS.1 h)) (i_Obj l E A H1 nw (L 22 n.toNatClampNeg)) kX7_init u532 (⟨rfl, ho, hAnw⟩) ⟨Nat.le_of_ble_eq_true rfl, Nat.le_of_ble_eq_true rfl⟩ rfl hl.1 rfl (Nat.le_of_ble_eq_true rfl) ⟨Nat.le_of_ble_eq_true rfl, Nat.le_of_ble_eq_true rfl⟩ dX10_object_70 (fun v5 H1 locs1 hR hS hz hk => ?_)
          obtain ⟨rfl, ho, oq⟩ := hR
          have hC := cd_kept hC (fun k i hv => oq _ (by have := hlt k i hv; omega) (hfr k i hv))
          refine ct_V (As := [.ref nw]) (rest := []) hx hb hml hown hu hE hZ hS (fun _ h => h) (fun q h => hA q (Nat.le_trans hS.1 h)) (x_add l E A H1 σ L 23 26 3 nw ([.ref (L 22 n.toNatClampNeg), .int 1])) kJx4a65c_add_9ea2d u335 ((cd_lex hC (j := 3) (by omega)).choose_spec) rfl rfl (⟨rfl, hC, hI, hK, Or.inr (Or.inr (Or.inr (Or.inl ⟨rfl, rfl, rfl⟩))), (by omega), (Nat.lt_of_lt_of_le (lt_cnt (t := 26) hI.1.2.2.2.2.2.1 c3 (K := 60) rfl) (by decide)), (by rw [show kci 23 = 8 from rfl]; exact ho), hfr⟩) ⟨Nat.le_of_ble_eq_true rfl, Nat.le_of_ble_eq_true rfl⟩ rfl hl.1 rfl (Nat.le_of_ble_eq_true rfl) ⟨Nat.le_of_ble_eq_true rfl, Nat.le_of_ble_eq_true rfl⟩ dX10_object_73 (fun v6 H1 locs1 hR hS hz hk => ?_)
          obtain ⟨rfl, hg⟩ := hR
          refine lv_pop hx hb dX10_object_76 rfl ?_
          have hX := isN_ok hI b1
          obtain ⟨L1, hC1, zc2, cL⟩ := cl_obj hC hI hK hJ hZ_ hX hg hAnw hfr ho
          have e22 := cL 22 _ (cv_22 (okN_lt hX)) (by omega)
          have hI1 := invM_obj (n := n) hI c3
          have hN : ob E (L 22 n.toNatClampNeg) 7 (fNot (m_objS σ n) L1 n.toNatClampNeg) H1 := by (rw [← e22]; exact cd_not hC1 (okN_lt (σ := m_objS σ n) hX))
          refine lv_aload_n hx hb dX10_object_77 rfl (lv_at hl 2 rfl) ?_
          refine lv_dup hx hb dX10_object_78 rfl ?_
          refine rd_get (k := 5) (v := .int (gA σ 93 n)) hx hb hown hu hE ok7 (hN) (by decide) u460 (fun _ h => h) rfl dX10_object_79 ?_
          refine lv_iconst (v := 1) hx hb dX10_object_82 (by decide) ?_
          refine lv_iadd hx hb dX10_object_83 ?_
          refine wr_put (k := 5) (v := .int ((gA σ 93 n) + 1)) hx hb hown hu hE ok7 hS (cd_A hC (cv_22 (okN_lt (isN_ok hI b1)))) (hN) (by decide) u460 (Or.inl rfl) rfl rfl rfl (Nat.le_of_ble_eq_true rfl) dX10_object_84 (fun H1 locs1 ho hz oq hS => ?_)
          have zc1 := cw_not (t := 93) (x := (gA σ 93 n) + 1) hC1 hI1 (okN_lt (σ := m_objS σ n) hX) (Or.inr (Or.inl ⟨rfl, rfl⟩)) (by rw [e22]; exact ho) (by rw [e22]; exact oq)
          refine lv_iload hx hb dX10_object_87 (lv_at hl 0 rfl) ?_
          exact ct_ri hx hb hr hlocks hS (by (have hB : (c_objBad σ n) = false := (by simp only [c_objBad, b1, decide_eq_true c2, decide_eq_true c3, decide_eq_true c4, Bool.not_true, Bool.not_false, Bool.and_true, Bool.true_and, Bool.and_false, Bool.false_and, Bool.or_true, Bool.true_or, Bool.or_false, Bool.false_or, Bool.and_self, Bool.or_self, eq_self, if_true, Bool.false_eq_true, if_false])); have c1 := zc1; have c2 := zc2; unfold k_object; rw [hB]; exact ⟨L1, rfl, c1, c2⟩) (Nat.le_of_ble_eq_true rfl) (Nat.le_of_ble_eq_true rfl) dX10_object_89
        · refine lv_aload_n hx hb dX10_object_42 rfl (lv_at hl 2 rfl) ?_
          refine rd_get (k := 0) (v := .int (σ 0 0)) hx hb hown hu hE ok11 (cd_reg hC) (by decide) u137 (fun _ h => h) rfl dX10_object_43 ?_
          refine lv_iload_n hx hb dX10_object_46 rfl (lv_at hl 0 rfl) ?_
          refine lv_icmp_lt (tgt := 52) hx hb dX10_object_47 (by decide) (fun c7 => ?_) (fun c7 => ?_)
          · refine lv_aload_n hx hb dX10_object_52 rfl (lv_at hl 2 rfl) ?_
            refine rd_get (k := 8) (v := .ref (L 9 3)) hx hb hown hu hE ok11 (cd_reg hC) (by decide) u145 (fun _ h => h) rfl dX10_object_53 ?_
            refine cr_V (As := []) (rest := []) hx hb hml hown hu hE (c_LS3 l E A σ L) kJx4a65c_size_8abf5 u266 ((cd_lex hC (j := 3) (by omega)).choose_spec) rfl rfl (⟨hC, hI⟩) ⟨Nat.le_of_ble_eq_true rfl, Nat.le_of_ble_eq_true rfl⟩ rfl hl.1 rfl (Nat.le_of_ble_eq_true rfl) ⟨Nat.le_of_ble_eq_true rfl, Nat.le_of_ble_eq_true rfl⟩ dX10_object_56 ?_
            refine lv_istore (lv' := [(4, .int (σ 26 0)), (3, .int (m_ripe σ n)), (2, .ref (L 22 n.toNatClampNeg)), (0, .ref (L 0 0)), (1, .int n)]) hx hb dX10_object_59 hl (by decide) rfl (fun ls hl => ?_)
            refine lv_aload_n hx hb dX10_object_61 rfl (lv_at hl 3 rfl) ?_
            refine rd_get (k := 8) (v := .ref (L 9 3)) hx hb hown hu hE ok11 (cd_reg hC) (by decide) u145 (fun _ h => h) rfl dX10_object_62 ?_
            obtain ⟨nw, hnw⟩ : ∃ z : Nat, z = s.heap.size := ⟨_, rfl⟩
            have hAnw : A nw := hA nw (by rw [hnw]; exact hS.1)
            have hsz := hS.1
            have hlt : ∀ k i, cv σ k i → L k i < s.heap.size := fun k i hv => cd_lt hC hv
            refine nw_new (fs := df8) hx hb hown hu hE ok8 hS u530 dfl8 (Nat.le_of_ble_eq_true rfl) (Nat.le_of_ble_eq_true rfl) dX10_object_65 (fun H1 ho hz oq hS => ?_)
            rw [← hnw] at ho hz oq hlt ⊢
            have hC := cd_kept hC (fun k i hv => oq _ (hlt k i hv))
            have hfr : ∀ k i, cv σ k i → L k i ≠ nw := fun k i hv => Nat.ne_of_lt (hlt k i hv)
            refine lv_dup hx hb dX10_object_68 rfl ?_
            refine lv_aload_n hx hb dX10_object_69 rfl (lv_at hl 2 rfl) ?_
            refine ct_I (As := [.ref (L 22 n.toNatClampNeg)]) (rest := [.ref nw, .ref (L 9 3)]) hx hb hml hown hu hE hZ hS (fun _ h => h) (fun q h => hA q (Nat.le_trans hS.1 h)) (i_Obj l E A H1 nw (L 22 n.toNatClampNeg)) kX7_init u532 (⟨rfl, ho, hAnw⟩) ⟨Nat.le_of_ble_eq_true rfl, Nat.le_of_ble_eq_true rfl⟩ rfl hl.1 rfl (Nat.le_of_ble_eq_true rfl) ⟨Nat.le_of_ble_eq_true rfl, Nat.le_of_ble_eq_true rfl⟩ dX10_object_70 (fun v8 H1 locs1 hR hS hz hk => ?_)
            obtain ⟨rfl, ho, oq⟩ := hR
            have hC := cd_kept hC (fun k i hv => oq _ (by have := hlt k i hv; omega) (hfr k i hv))
            refine ct_V (As := [.ref nw]) (rest := []) hx hb hml hown hu hE hZ hS (fun _ h => h) (fun q h => hA q (Nat.le_trans hS.1 h)) (x_add l E A H1 σ L 23 26 3 nw ([.ref (L 22 n.toNatClampNeg), .int 1])) kJx4a65c_add_9ea2d u335 ((cd_lex hC (j := 3) (by omega)).choose_spec) rfl rfl (⟨rfl, hC, hI, hK, Or.inr (Or.inr (Or.inr (Or.inl ⟨rfl, rfl, rfl⟩))), (by omega), (Nat.lt_of_lt_of_le (lt_cnt (t := 26) hI.1.2.2.2.2.2.1 c3 (K := 60) rfl) (by decide)), (by rw [show kci 23 = 8 from rfl]; exact ho), hfr⟩) ⟨Nat.le_of_ble_eq_true rfl, Nat.le_of_ble_eq_true rfl⟩ rfl hl.1 rfl (Nat.le_of_ble_eq_true rfl) ⟨Nat.le_of_ble_eq_true rfl, Nat.le_of_ble_eq_true rfl⟩ dX10_object_73 (fun v9 H1 locs1 hR hS hz hk => ?_)
            obtain ⟨rfl, hg⟩ := hR
            refine lv_pop hx hb dX10_object_76 rfl ?_
            have hX := isN_ok hI b1
            obtain ⟨L1, hC1, zc2, cL⟩ := cl_obj hC hI hK hJ hZ_ hX hg hAnw hfr ho
            have e22 := cL 22 _ (cv_22 (okN_lt hX)) (by omega)
            have hI1 := invM_obj (n := n) hI c3
            have hN : ob E (L 22 n.toNatClampNeg) 7 (fNot (m_objS σ n) L1 n.toNatClampNeg) H1 := by (rw [← e22]; exact cd_not hC1 (okN_lt (σ := m_objS σ n) hX))
            refine lv_aload_n hx hb dX10_object_77 rfl (lv_at hl 2 rfl) ?_
            refine lv_dup hx hb dX10_object_78 rfl ?_
            refine rd_get (k := 5) (v := .int (gA σ 93 n)) hx hb hown hu hE ok7 (hN) (by decide) u460 (fun _ h => h) rfl dX10_object_79 ?_
            refine lv_iconst (v := 1) hx hb dX10_object_82 (by decide) ?_
            refine lv_iadd hx hb dX10_object_83 ?_
            refine wr_put (k := 5) (v := .int ((gA σ 93 n) + 1)) hx hb hown hu hE ok7 hS (cd_A hC (cv_22 (okN_lt (isN_ok hI b1)))) (hN) (by decide) u460 (Or.inl rfl) rfl rfl rfl (Nat.le_of_ble_eq_true rfl) dX10_object_84 (fun H1 locs1 ho hz oq hS => ?_)
            have zc1 := cw_not (t := 93) (x := (gA σ 93 n) + 1) hC1 hI1 (okN_lt (σ := m_objS σ n) hX) (Or.inr (Or.inl ⟨rfl, rfl⟩)) (by rw [e22]; exact ho) (by rw [e22]; exact oq)
            refine lv_iload hx hb dX10_object_87 (lv_at hl 0 rfl) ?_
            exact ct_ri hx hb hr hlocks hS (by (have hB : (c_objBad σ n) = false := (by simp only [c_objBad, b1, decide_eq_true c2, decide_eq_true c3, decide_eq_false c4, decide_eq_true c7, Bool.not_true, Bool.not_false, Bool.and_true, Bool.true_and, Bool.and_false, Bool.false_and, Bool.or_true, Bool.true_or, Bool.or_false, Bool.false_or, Bool.and_self, Bool.or_self, eq_self, if_true, Bool.false_eq_true, if_false])); have c1 := zc1; have c2 := zc2; unfold k_object; rw [hB]; exact ⟨L1, rfl, c1, c2⟩) (Nat.le_of_ble_eq_true rfl) (Nat.le_of_ble_eq_true rfl) dX10_object_89
          · refine lv_iconst (v := (-1)) hx hb dX10_object_50 (by decide) ?_
            exact ct_ri hx hb hr hlocks hS (by (have hB : (c_objBad σ n) = true := (by simp only [c_objBad, b1, decide_eq_true c2, decide_eq_true c3, decide_eq_false c4, decide_eq_false c7, Bool.not_true, Bool.not_false, Bool.and_true, Bool.true_and, Bool.and_false, Bool.false_and, Bool.or_true, Bool.true_or, Bool.or_false, Bool.false_or, Bool.and_self, Bool.or_self, eq_self, if_true, Bool.false_eq_true, if_false])); unfold k_object; rw [hB]; exact ⟨L, rfl, hC, rfl⟩) (Nat.le_of_ble_eq_true rfl) (Nat.le_of_ble_eq_true rfl) dX10_object_51
      · refine lv_iconst (v := (-1)) hx hb dX10_object_29 (by decide) ?_
        exact ct_ri hx hb hr hlocks hS (by (have hB : (c_objBad σ n) = true := (by simp only [c_objBad, b1, decide_eq_true c2, decide_eq_false c3, Bool.not_true, Bool.not_false, Bool.and_true, Bool.true_and, Bool.and_false, Bool.false_and, Bool.or_true, Bool.true_or, Bool.or_false, Bool.false_or, Bool.and_self, Bool.or_self, eq_self, if_true, Bool.false_eq_true, if_false])); unfold k_object; rw [hB]; exact ⟨L, rfl, hC, rfl⟩) (Nat.le_of_ble_eq_true rfl) (Nat.le_of_ble_eq_true rfl) dX10_object_30
  · refine lv_astore_nN (lv' := [(2, .null), (0, .ref (L 0 0)), (1, .int n)]) hx hb dX10_object_5 rfl hl (by decide) rfl (fun ls hl => ?_)
    refine lv_aload_nN hx hb dX10_object_6 rfl (lv_at hl 0 rfl) ?_
    refine lv_ifnullN (tgt := 29) hx hb dX10_object_7 (by decide) ?_
    refine lv_iconst (v := (-1)) hx hb dX10_object_29 (by decide) ?_
    exact ct_ri hx hb hr hlocks hS (by (have hB : (c_objBad σ n) = true := (by simp only [c_objBad, b1, Bool.not_true, Bool.not_false, Bool.and_true, Bool.true_and, Bool.and_false, Bool.false_and, Bool.or_true, Bool.true_or, Bool.or_false, Bool.false_or, Bool.and_self, Bool.or_self, eq_self, if_true, Bool.false_eq_true, if_false])); unfold k_object; rw [hB]; exact ⟨L, rfl, hC, rfl⟩) (Nat.le_of_ble_eq_true rfl) (Nat.le_of_ble_eq_true rfl) dX10_object_30
set_option maxHeartbeats 1000000 in
set_option maxRecDepth 20000 in
theorem y_wed (l : Launch) (E : EV) (A : Nat → Prop) (σ : St) (L : Nat → Nat → Nat) (n : Int32) : Ct l E yX10_wed cX10_wed 4 (some .int) 7 191 2 406 A [.ref (L 0 0), .int n] (fun H => Cd E A σ L H ∧ InvM σ ∧ InvP σ ∧ InvJ σ ∧ InvL σ ∧ InvE σ) (fun v H => ∃ L1, v = some (.int (k_wed σ n).1) ∧ Cd E A (k_wed σ n).2 L1 H ∧ L1 0 0 = L 0 0) := by
  refine Ct.of (by decide +kernel) (Nat.le_of_ble_eq_true rfl) (fun pg ev s mi bel mth cd hx hb hr hml hown hu hlocks hnm hE hP hA hZ ls hl => ?_)
  have hl : lv_has ls 4 [(0, .ref (L 0 0)), (1, .int n)] := hl
  have hS : va_S A s.heap s.heap [] := va_S.rf
  obtain ⟨hC, hI, hK, hJ, hL, hE_⟩ := hP
  refine lv_aload_n hx hb dX10_wed_0 rfl (lv_at hl 0 rfl) ?_
  refine lv_iload_n hx hb dX10_wed_1 rfl (lv_at hl 1 rfl) ?_
  refine cr_V (As := [.int n]) (rest := []) hx hb hml hown hu hE (x_notAt l E A σ L n) kX10_noticeAt u487 (cd_reg hC) rfl rfl (⟨hC, hI⟩) ⟨Nat.le_of_ble_eq_true rfl, Nat.le_of_ble_eq_true rfl⟩ rfl hl.1 rfl (Nat.le_of_ble_eq_true rfl) ⟨Nat.le_of_ble_eq_true rfl, Nat.le_of_ble_eq_true rfl⟩ dX10_wed_2 ?_
  refine onO (fun b1 => ?_) (fun b1 => ?_)
  · refine lv_astore_n (lv' := [(2, .ref (L 22 n.toNatClampNeg)), (0, .ref (L 0 0)), (1, .int n)]) hx hb dX10_wed_5 rfl hl (by decide) rfl (fun ls hl => ?_)
    refine lv_aload_n hx hb dX10_wed_6 rfl (lv_at hl 0 rfl) ?_
    refine lv_ifnull hx hb dX10_wed_7 ?_
    refine lv_aload_n hx hb dX10_wed_10 rfl (lv_at hl 0 rfl) ?_
    refine rd_get (k := 4) (v := .int (gA σ 20 n)) hx hb hown hu hE ok7 (cd_not hC (okN_lt (isN_ok hI b1))) (by decide) u458 (fun _ h => h) rfl dX10_wed_11 ?_
    refine lv_if_ne (tgt := 28) hx hb dX10_wed_14 (by decide) (fun c2 => ?_) (fun c2 => ?_)
    · refine lv_iconst (v := (-1)) hx hb dX10_wed_28 (by decide) ?_
      exact ct_ri hx hb hr hlocks hS (by (have hB : (c_weBad σ n) = true := (by simp only [c_weBad, b1, decide_eq_false c2, Bool.not_true, Bool.not_false, Bool.and_true, Bool.true_and, Bool.and_false, Bool.false_and, Bool.or_true, Bool.true_or, Bool.or_false, Bool.false_or, Bool.and_self, Bool.or_self, eq_self, if_true, Bool.false_eq_true, if_false])); unfold k_wed; rw [hB]; exact ⟨L, rfl, hC, rfl⟩) (Nat.le_of_ble_eq_true rfl) (Nat.le_of_ble_eq_true rfl) dX10_wed_29
    · refine lv_aload_n hx hb dX10_wed_17 rfl (lv_at hl 0 rfl) ?_
      refine rd_get (k := 6) (v := .int (gA σ 21 n)) hx hb hown hu hE ok7 (cd_not hC (okN_lt (isN_ok hI b1))) (by decide) u462 (fun _ h => h) rfl dX10_wed_18 ?_
      refine lv_aload_n hx hb dX10_wed_21 rfl (lv_at hl 1 rfl) ?_
      refine rd_get (k := 0) (v := .int (σ 0 0)) hx hb hown hu hE ok11 (cd_reg hC) (by decide) u137 (fun _ h => h) rfl dX10_wed_22 ?_
      refine lv_icmp_eq (tgt := 30) hx hb dX10_wed_25 (by decide) (fun c3 => ?_) (fun c3 => ?_)
      · refine lv_aload_n hx hb dX10_wed_30 rfl (lv_at hl 1 rfl) ?_
        refine lv_aload_n hx hb dX10_wed_31 rfl (lv_at hl 0 rfl) ?_
        refine rd_get (k := 1) (v := .ref (L 21 (gA σ 17 n).toNatClampNeg)) hx hb hown hu hE ok7 (cd_not hC (okN_lt (isN_ok hI b1))) (by decide) u451 (fun _ h => h) rfl dX10_wed_32 ?_
        refine lv_aload_n hx hb dX10_wed_35 rfl (lv_at hl 0 rfl) ?_
        refine rd_get (k := 2) (v := .ref (L 21 (gA σ 18 n).toNatClampNeg)) hx hb hown hu hE ok7 (cd_not hC (okN_lt (isN_ok hI b1))) (by decide) u454 (fun _ h => h) rfl dX10_wed_36 ?_
        refine lv_aload_n hx hb dX10_wed_39 rfl (lv_at hl 1 rfl) ?_
        refine rd_get (k := 0) (v := .int (σ 0 0)) hx hb hown hu hE ok11 (cd_reg hC) (by decide) u137 (fun _ h => h) rfl dX10_wed_40 ?_
        refine cr_V (As := [.ref (L 21 (gA σ 17 n).toNatClampNeg), .ref (L 21 (gA σ 18 n).toNatClampNeg), .int (σ 0 0)]) (rest := []) hx hb hml hown hu hE (x_bar l E A σ L (gA σ 17 n) (gA σ 18 n) (σ 0 0)) kX10_barToCouple u403 (cd_reg hC) rfl rfl (⟨hC, hI, (one_ok hI (isN_ok hI b1)), (oth_ok hI (isN_ok hI b1)), hL, hK⟩) ⟨Nat.le_of_ble_eq_true rfl, Nat.le_of_ble_eq_true rfl⟩ rfl hl.1 rfl (Nat.le_of_ble_eq_true rfl) ⟨Nat.le_of_ble_eq_true rfl, Nat.le_of_ble_eq_true rfl⟩ dX10_wed_43 ?_
        refine lv_if_ne (tgt := 61) hx hb dX10_wed_46 (by decide) (fun c4 => ?_) (fun c4 => ?_)
        · refine lv_iconst (v := (-1)) hx hb dX10_wed_61 (by decide) ?_
          exact ct_ri hx hb hr hlocks hS (by (have hB : (c_weBad σ n) = true := (by simp only [c_weBad, b1, decide_eq_true c2, decide_eq_true c3, decide_eq_false c4, Bool.not_true, Bool.not_false, Bool.and_true, Bool.true_and, Bool.and_false, Bool.false_and, Bool.or_true, Bool.true_or, Bool.or_false, Bool.false_or, Bool.and_self, Bool.or_self, eq_self, if_true, Bool.false_eq_true, if_false])); unfold k_wed; rw [hB]; exact ⟨L, rfl, hC, rfl⟩) (Nat.le_of_ble_eq_true rfl) (Nat.le_of_ble_eq_true rfl) dX10_wed_62
        · refine lv_aload_n hx hb dX10_wed_49 rfl (lv_at hl 1 rfl) ?_
          refine lv_aload_n hx hb dX10_wed_50 rfl (lv_at hl 0 rfl) ?_
          refine lv_aload_n hx hb dX10_wed_51 rfl (lv_at hl 1 rfl) ?_
          refine rd_get (k := 0) (v := .int (σ 0 0)) hx hb hown hu hE ok11 (cd_reg hC) (by decide) u137 (fun _ h => h) rfl dX10_wed_52 ?_
          refine cr_V (As := [.ref (L 22 n.toNatClampNeg), .int (σ 0 0)]) (rest := []) hx hb hml hown hu hE (x_ripeOn l E A σ L n (σ 0 0)) kX10_isRipeOn u578 (cd_reg hC) rfl rfl (⟨hC, hI, (isN_ok hI b1), hL, okD_n hI⟩) ⟨Nat.le_of_ble_eq_true rfl, Nat.le_of_ble_eq_true rfl⟩ rfl hl.1 rfl (Nat.le_of_ble_eq_true rfl) ⟨Nat.le_of_ble_eq_true rfl, Nat.le_of_ble_eq_true rfl⟩ dX10_wed_55 ?_
          refine onB (fun b5 => ?_) (fun b5 => ?_)
          · refine lv_if_ne (tgt := 63) hx hb dX10_wed_58 (by decide) (fun _ => ?_) (fun c6 => absurd c6 (by decide))
            refine lv_aload_n hx hb dX10_wed_63 rfl (lv_at hl 0 rfl) ?_
            refine lv_iconst (v := 1) hx hb dX10_wed_64 (by decide) ?_
            refine wr_put (k := 4) (v := .int 1) hx hb hown hu hE ok7 hS (cd_A hC (cv_22 (okN_lt (isN_ok hI b1)))) (cd_not hC (okN_lt (isN_ok hI b1))) (by decide) u458 (Or.inl rfl) rfl rfl rfl (Nat.le_of_ble_eq_true rfl) dX10_wed_65 (fun H1 locs1 ho hz oq hS => ?_)
            have hC := cw_not (t := 20) (x := 1) hC hI (okN_lt (isN_ok hI b1)) (Or.inl ⟨rfl, rfl⟩) ho oq
            have hI7 : InvM (sA σ 20 n.toNatClampNeg 1) := invM_tag hI (by omega)
            refine lv_aload_n hx hb dX10_wed_68 rfl (lv_at hl 0 rfl) ?_
            refine rd_get (k := 1) (v := .ref (L 21 (gA σ 17 n).toNatClampNeg)) hx hb hown hu hE ok7 (cd_not hC (okN_lt (σ := σ) (isN_ok hI b1))) (by decide) u451 (fun _ h => h) rfl dX10_wed_69 ?_
            refine lv_aload_n hx hb dX10_wed_72 rfl (lv_at hl 0 rfl) ?_
            refine rd_get (k := 2) (v := .ref (L 21 (gA σ 18 n).toNatClampNeg)) hx hb hown hu hE ok7 (cd_not hC (okN_lt (σ := σ) (isN_ok hI b1))) (by decide) u454 (fun _ h => h) rfl dX10_wed_73 ?_
            refine wr_put (k := 8) (v := .ref (L 21 (gA σ 18 n).toNatClampNeg)) hx hb hown hu hE ok10 hS (cd_A hC (cv_21 (okP_lt (σ := σ) (one_ok hI (isN_ok hI b1))))) (cd_per hC (okP_lt (σ := σ) (one_ok hI (isN_ok hI b1)))) (by decide) u315 (Or.inl rfl) rfl rfl rfl (Nat.le_of_ble_eq_true rfl) dX10_wed_76 (fun H1 locs1 ho hz oq hS => ?_)
            have hC := cw_per (x := (gA σ 18 n)) hC hI7 (okP_lt (σ := σ) (one_ok hI (isN_ok hI b1))) (by rw [rfo_s (okP_ne (σ := σ) (oth_ok hI (isN_ok hI b1)))]; exact ho) oq
            have hI8 : InvM (sA (sA σ 20 n.toNatClampNeg 1) 10 (gA σ 17 n).toNatClampNeg (gA σ 18 n)) := invM_10 hI7 (Or.inr (oth_ok (σ := σ) hI (isN_ok (σ := σ) hI b1)))
            refine lv_aload_n hx hb dX10_wed_79 rfl (lv_at hl 0 rfl) ?_
            refine rd_get (k := 2) (v := .ref (L 21 (gA σ 18 n).toNatClampNeg)) hx hb hown hu hE ok7 (cd_not hC (okN_lt (σ := σ) (isN_ok hI b1))) (by decide) u454 (fun _ h => h) rfl dX10_wed_80 ?_
            refine lv_aload_n hx hb dX10_wed_83 rfl (lv_at hl 0 rfl) ?_
            refine rd_get (k := 1) (v := .ref (L 21 (gA σ 17 n).toNatClampNeg)) hx hb hown hu hE ok7 (cd_not hC (okN_lt (σ := σ) (isN_ok hI b1))) (by decide) u451 (fun _ h => h) rfl dX10_wed_84 ?_
            refine wr_put (k := 8) (v := .ref (L 21 (gA σ 17 n).toNatClampNeg)) hx hb hown hu hE ok10 hS (cd_A hC (cv_21 (okP_lt (σ := σ) (oth_ok hI (isN_ok hI b1))))) (cd_per hC (okP_lt (σ := σ) (oth_ok hI (isN_ok hI b1)))) (by decide) u315 (Or.inl rfl) rfl rfl rfl (Nat.le_of_ble_eq_true rfl) dX10_wed_87 (fun H1 locs1 ho hz oq hS => ?_)
            have hC := cw_per (x := (gA σ 17 n)) hC hI8 (okP_lt (σ := σ) (oth_ok hI (isN_ok hI b1))) (by rw [rfo_s (okP_ne (σ := σ) (one_ok hI (isN_ok hI b1)))]; exact ho) oq
            have hI9 : InvM (sA (sA (sA σ 20 n.toNatClampNeg 1) 10 (gA σ 17 n).toNatClampNeg (gA σ 18 n)) 10 (gA σ 18 n).toNatClampNeg (gA σ 17 n)) := invM_10 hI8 (Or.inr (one_ok (σ := σ) hI (isN_ok (σ := σ) hI b1)))
            have hIw : InvM (k_we1 σ n) := hI9
            have hC : Cd E A (k_we1 σ n) L H1 := hC
            have hKw : InvP (k_we1 σ n) := invP_of hK (fun k hk => we1_at (by omega))
            have hJw : InvJ (k_we1 σ n) := invJ_of hJ (fun k hk => we1_at (by omega))
            refine lv_aload_n hx hb dX10_wed_90 rfl (lv_at hl 1 rfl) ?_
            refine rd_get (k := 9) (v := .ref (L 9 4)) hx hb hown hu hE ok11 (cd_reg hC) (by decide) u146 (fun _ h => h) rfl dX10_wed_91 ?_
            refine cr_V (As := []) (rest := []) hx hb hml hown hu hE (c_LS4 l E A (k_we1 σ n) L) kJx4a65c_size_8abf5 u266 ((cd_lex hC (j := 4) (by omega)).choose_spec) rfl rfl (⟨hC, hIw⟩) ⟨Nat.le_of_ble_eq_true rfl, Nat.le_of_ble_eq_true rfl⟩ rfl hl.1 rfl (Nat.le_of_ble_eq_true rfl) ⟨Nat.le_of_ble_eq_true rfl, Nat.le_of_ble_eq_true rfl⟩ dX10_wed_94 ?_
            refine lv_istore_n (lv' := [(3, .int (σ 30 0)), (2, .ref (L 22 n.toNatClampNeg)), (0, .ref (L 0 0)), (1, .int n)]) hx hb dX10_wed_97 rfl hl (by decide) rfl (fun ls hl => ?_)
            refine lv_aload_n hx hb dX10_wed_98 rfl (lv_at hl 2 rfl) ?_
            refine rd_get (k := 9) (v := .ref (L 9 4)) hx hb hown hu hE ok11 (cd_reg hC) (by decide) u146 (fun _ h => h) rfl dX10_wed_99 ?_
            obtain ⟨nw, hnw⟩ : ∃ z : Nat, z = H1.size := ⟨_, rfl⟩
            have hAnw : A nw := hA nw (by rw [hnw]; exact hS.1)
            have hsz := hS.1
            have hlt : ∀ k i, cv (k_we1 σ n) k i → L k i < H1.size := fun k i hv => cd_lt hC hv
            refine nw_new (fs := df4) hx hb hown hu hE ok4 hS u647 dfl4 (Nat.le_of_ble_eq_true rfl) (Nat.le_of_ble_eq_true rfl) dX10_wed_102 (fun H1 ho hz oq hS => ?_)
            rw [← hnw] at ho hz oq hlt ⊢
            have hC := cd_kept hC (fun k i hv => oq _ (hlt k i hv))
            have hfr : ∀ k i, cv (k_we1 σ n) k i → L k i ≠ nw := fun k i hv => Nat.ne_of_lt (hlt k i hv)
            refine lv_dup hx hb dX10_wed_105 rfl ?_
            refine lv_aload_n hx hb dX10_wed_106 rfl (lv_at hl 1 rfl) ?_
            refine lv_aload_n hx hb dX10_wed_107 rfl (lv_at hl 2 rfl) ?_
            refine rd_get (k := 0) (v := .int (σ 0 0)) hx hb hown hu hE ok11 (cd_reg hC) (by decide) u137 (fun _ h => h) rfl dX10_wed_108 ?_
            refine ct_I (As := [.ref (L 22 n.toNatClampNeg), .int (σ 0 0)]) (rest := [.ref nw, .ref (L 9 4)]) hx hb hml hown hu hE hZ hS (fun _ h => h) (fun q h => hA q (Nat.le_trans hS.1 h)) (i_Ent l E A H1 (k_we1 σ n) L nw n (σ 0 0)) kX3_init u649 (⟨rfl, ho, hAnw, hC, hIw, (show okN σ n from (isN_ok hI b1)), hfr⟩) ⟨Nat.le_of_ble_eq_true rfl, Nat.le_of_ble_eq_true rfl⟩ rfl hl.1 rfl (Nat.le_of_ble_eq_true rfl) ⟨Nat.le_of_ble_eq_true rfl, Nat.le_of_ble_eq_true rfl⟩ dX10_wed_111 (fun v10 H1 locs1 hR hS hz hk => ?_)
            obtain ⟨rfl, ho, oq⟩ := hR
            have hC := cd_kept hC (fun k i hv => oq _ (by have := hlt k i hv; omega) (hfr k i hv))
            refine ct_V (As := [.ref nw]) (rest := []) hx hb hml hown hu hE hZ hS (fun _ h => h) (fun q h => hA q (Nat.le_trans hS.1 h)) (x_add l E A H1 (k_we1 σ n) L 24 30 4 nw ([.ref (L 22 n.toNatClampNeg), .int (σ 0 0), .int (gA (k_we1 σ n) 9 (gA (k_we1 σ n) 17 n)), .int (gA (k_we1 σ n) 9 (gA (k_we1 σ n) 18 n)), .int (rm (gA (k_we1 σ n) 22 n / 10) 10), .int (rm (gA (k_we1 σ n) 22 n) 10)])) kJx4a65c_add_9ea2d u335 ((cd_lex hC (j := 4) (by omega)).choose_spec) rfl rfl (⟨rfl, hC, hIw, hKw, Or.inr (Or.inr (Or.inr (Or.inr (Or.inl ⟨rfl, rfl, rfl⟩)))), (by omega), (show nn σ 30 < 200 from Nat.lt_of_lt_of_le (e60 (σ := σ) hI hE_ (isN_ok (σ := σ) hI b1) c2) (by decide)), (by rw [show kci 24 = 4 from rfl]; exact ho), hfr⟩) ⟨Nat.le_of_ble_eq_true rfl, Nat.le_of_ble_eq_true rfl⟩ rfl hl.1 rfl (Nat.le_of_ble_eq_true rfl) ⟨Nat.le_of_ble_eq_true rfl, Nat.le_of_ble_eq_true rfl⟩ dX10_wed_114 (fun v11 H1 locs1 hR hS hz hk => ?_)
            obtain ⟨rfl, hg⟩ := hR
            refine lv_pop hx hb dX10_wed_117 rfl ?_
            refine lv_iload_n hx hb dX10_wed_118 rfl (lv_at hl 0 rfl) ?_
            exact ct_ri hx hb hr hlocks hS (by (have hB : (c_weBad σ n) = false := (by simp only [c_weBad, b1, decide_eq_true c2, decide_eq_true c3, decide_eq_true c4, b5, Bool.not_true, Bool.not_false, Bool.and_true, Bool.true_and, Bool.and_false, Bool.false_and, Bool.or_true, Bool.true_or, Bool.or_false, Bool.false_or, Bool.and_self, Bool.or_self, eq_self, if_true, Bool.false_eq_true, if_false])); obtain ⟨L1, c1, c2⟩ := cl_ent (σ := k_we1 σ n) hC hIw hKw hJw (show nn σ 30 < 60 from e60 (σ := σ) hI hE_ (isN_ok (σ := σ) hI b1) c2) (show okN σ n from (isN_ok (σ := σ) hI b1)) hg hAnw hfr ho; unfold k_wed; rw [hB]; exact ⟨L1, rfl, c1, c2⟩) (Nat.le_of_ble_eq_true rfl) (Nat.le_of_ble_eq_true rfl) dX10_wed_119
          · refine lv_if_ne (tgt := 63) hx hb dX10_wed_58 (by decide) (fun c12 => absurd c12 (by decide)) (fun _ => ?_)
            refine lv_iconst (v := (-1)) hx hb dX10_wed_61 (by decide) ?_
            exact ct_ri hx hb hr hlocks hS (by (have hB : (c_weBad σ n) = true := (by simp only [c_weBad, b1, decide_eq_true c2, decide_eq_true c3, decide_eq_true c4, b5, Bool.not_true, Bool.not_false, Bool.and_true, Bool.true_and, Bool.and_false, Bool.false_and, Bool.or_true, Bool.true_or, Bool.or_false, Bool.false_or, Bool.and_self, Bool.or_self, eq_self, if_true, Bool.false_eq_true, if_false])); unfold k_wed; rw [hB]; exact ⟨L, rfl, hC, rfl⟩) (Nat.le_of_ble_eq_true rfl) (Nat.le_of_ble_eq_true rfl) dX10_wed_62
      · refine lv_iconst (v := (-1)) hx hb dX10_wed_28 (by decide) ?_
        exact ct_ri hx hb hr hlocks hS (by (have hB : (c_weBad σ n) = true := (by simp only [c_weBad, b1, decide_eq_true c2, decide_eq_false c3, Bool.not_true, Bool.not_false, Bool.and_true, Bool.true_and, Bool.and_false, Bool.false_and, Bool.or_true, Bool.true_or, Bool.or_false, Bool.false_or, Bool.and_self, Bool.or_self, eq_self, if_true, Bool.false_eq_true, if_false])); unfold k_wed; rw [hB]; exact ⟨L, rfl, hC, rfl⟩) (Nat.le_of_ble_eq_true rfl) (Nat.le_of_ble_eq_true rfl) dX10_wed_29
  · refine lv_astore_nN (lv' := [(2, .null), (0, .ref (L 0 0)), (1, .int n)]) hx hb dX10_wed_5 rfl hl (by decide) rfl (fun ls hl => ?_)
    refine lv_aload_nN hx hb dX10_wed_6 rfl (lv_at hl 0 rfl) ?_
    refine lv_ifnullN (tgt := 28) hx hb dX10_wed_7 (by decide) ?_
    refine lv_iconst (v := (-1)) hx hb dX10_wed_28 (by decide) ?_
    exact ct_ri hx hb hr hlocks hS (by (have hB : (c_weBad σ n) = true := (by simp only [c_weBad, b1, Bool.not_true, Bool.not_false, Bool.and_true, Bool.true_and, Bool.and_false, Bool.false_and, Bool.or_true, Bool.true_or, Bool.or_false, Bool.false_or, Bool.and_self, Bool.or_self, eq_self, if_true, Bool.false_eq_true, if_false])); unfold k_wed; rw [hB]; exact ⟨L, rfl, hC, rfl⟩) (Nat.le_of_ble_eq_true rfl) (Nat.le_of_ble_eq_true rfl) dX10_wed_29
