set_option maxHeartbeats 1000000 in
set_option maxRecDepth 20000 in
theorem c_inForce (l : Launch) (E : EV) (A : Nat → Prop) (σ : St) (M : Nat → Nat) (ld dy : Int32) : Ct l E yX11_inForce cX11_inForce 5 (some (.array .int)) 0 0 0 0 A [.ref (M 0), .int ld, .int dy] (fun H => Md E A σ M H ∧ InvM σ) (fun v H => ∃ (ra : Nat) (rf : Nat → Int32), v = some (.ref ra) ∧ ia E ra 8 rf H ∧ (∀ w, w < 8 → rf w = m_ask σ ld dy w) ∧ Md E A σ M H) := by
  refine Ct.of (by decide +kernel) (Nat.le_of_ble_eq_true rfl) (fun pg ev s mi bel mth cd hx hb hr hml hown hu hlocks hnm hE hP hA hZ ls hl => ?_)
  have hl : lv_has ls 5 [(0, .ref (M 0)), (1, .int ld), (2, .int dy)] := hl
  have hS : va_S A s.heap s.heap [] := va_S.rf
  obtain ⟨hM, hI⟩ := hP
  have hn := cnt_le (N := 60) hI.1.2.1
  have hc := cnt_nI hI.1.2.1
  refine lv_iconst (v := (-1)) hx hb dX11_inForce_0 (by decide) ?_
  refine lv_istore_n (lv' := [(3, .int (-1)), (0, .ref (M 0)), (1, .int ld), (2, .int dy)]) hx hb dX11_inForce_1 rfl hl (by decide) rfl (fun ls hl => ?_)
  refine lv_iconst (v := 0) hx hb dX11_inForce_2 (by decide) ?_
  refine lv_istore (lv' := [(4, .int 0), (3, .int (-1)), (0, .ref (M 0)), (1, .int ld), (2, .int dy)]) hx hb dX11_inForce_3 hl (by decide) rfl (fun ls hl => ?_)
  obtain ⟨T, hT⟩ : ∃ z, z = m_best σ ld dy := ⟨_, rfl⟩
  have lo : ∀ (f k : Nat) (b : Int32), (k + f = nn σ 2) → (m_ifL σ ld dy f k b = T) → (b = -1 ∨ ∃ j, j < nn σ 2 ∧ b = nI j) → ∀ (H1 : Heap) (locs1 : List Loc), Md E A σ M H1 → va_S A s.heap H1 locs1 → ∀ (ls : Array Slot), lv_has ls 5 [(0, .ref (M 0)), (1, .int ld), (2, .int dy), (3, .int b), (4, .int (nI k))] → W pg l ev { frames := 0, cells := 0, slots := 0, locals := 0 } s mi [.ref (M 0), .int ld, .int dy].toArray bel mth cd H1 locs1 0 0 (QT bel s [.ref (M 0), .int ld, .int dy].toArray 0 0 A (fun v H => ∃ (ra : Nat) (rf : Nat → Int32), v = some (.ref ra) ∧ ia E ra 8 rf H ∧ (∀ w, w < 8 → rf w = m_ask σ ld dy w) ∧ Md E A σ M H)) (F0 mi 5 ls []) := by
    intro f
    induction f with
    | zero =>
      intro k b hk hi hb2 H1 locs1 hM hS ls hl
      refine lv_iload hx hb dX11_inForce_5 (lv_at hl 4 rfl) ?_
      refine lv_aload_n hx hb dX11_inForce_7 rfl (lv_at hl 0 rfl) ?_
      refine rd_get (k := 2) (v := .int (σ 2 0)) hx hb hown hu hE ok12 (md_obj hM) (by decide) u759 (fun _ h => h) rfl dX11_inForce_8 ?_
      refine lv_icmp_ge (tgt := 74) hx hb dX11_inForce_11 (by decide) (fun c1 => ?_) (fun c1 => absurd (by rw [hc]; exact nI_le (by omega) (by omega)) c1)
      refine lv_iload_n hx hb dX11_inForce_74 rfl (lv_at hl 3 rfl) ?_
      refine lv_iconst (v := (-1)) hx hb dX11_inForce_75 (by decide) ?_
      refine lv_icmp_eq (tgt := 86) hx hb dX11_inForce_76 (by decide) (fun c2 => ?_) (fun c2 => ?_)
      · obtain ⟨gs0, hsc⟩ := md_scr hM
        refine lv_iconst (v := 0) hx hb dX11_inForce_86 (by decide) ?_
        refine lv_istore (lv' := [(4, .int 0), (0, .ref (M 0)), (1, .int ld), (2, .int dy), (3, .int b)]) hx hb dX11_inForce_87 hl (by decide) rfl (fun ls hl => ?_)
        have ls2 : ∀ (g j : Nat) (gs : Nat → Int32), (j + g = 8) → (∀ w, w < j → gs w = m_def w) → ∀ (H1 : Heap) (locs1 : List Loc), Md E A σ M H1 → ia E (M 3) 8 gs H1 → va_S A s.heap H1 locs1 → ∀ (ls : Array Slot), lv_has ls 5 [(0, .ref (M 0)), (4, .int (nI j))] → W pg l ev { frames := 0, cells := 0, slots := 0, locals := 0 } s mi [.ref (M 0), .int ld, .int dy].toArray bel mth cd H1 locs1 0 0 (QT bel s [.ref (M 0), .int ld, .int dy].toArray 0 0 A (fun v H => ∃ (ra : Nat) (rf : Nat → Int32), v = some (.ref ra) ∧ ia E ra 8 rf H ∧ (∀ w, w < 8 → rf w = m_ask σ ld dy w) ∧ Md E A σ M H)) (F0 mi 89 ls []) := by
          intro g
          induction g with
          | zero =>
            intro j gs hj hgs H1 locs1 hM hsc hS ls hl
            refine lv_iload hx hb dX11_inForce_89 (lv_at hl 1 rfl) ?_
            refine lv_bipush (v := 8) hx hb dX11_inForce_91 (by decide) ?_
            refine lv_icmp_ge (tgt := 120) hx hb dX11_inForce_93 (by decide) (fun c3 => ?_) (fun c3 => absurd (show nI 8 ≤ _ from nI_le (by omega) (by omega)) c3)
            refine lv_aload_n hx hb dX11_inForce_120 rfl (lv_at hl 0 rfl) ?_
            refine rd_get (k := 3) (v := .ref (M 3)) hx hb hown hu hE ok12 (md_obj hM) (by decide) u760 (fun _ h => h) rfl dX11_inForce_121 ?_
            exact ct_ra hx hb hr (Or.inr ⟨_, rfl⟩) (Or.inr ⟨_, rfl⟩) hlocks hS (⟨_, _, rfl, hsc, fun w hw => by (simp only [m_ifL] at hi; unfold m_ask; rw [← hT, ← hi, if_pos (by simp [c2])]; exact hgs w (by omega)), hM⟩) (Nat.le_of_ble_eq_true rfl) (Nat.le_of_ble_eq_true rfl) dX11_inForce_124
          | succ g ih2 =>
            intro j gs hj hgs H1 locs1 hM hsc hS ls hl
            refine lv_iload hx hb dX11_inForce_89 (lv_at hl 1 rfl) ?_
            refine lv_bipush (v := 8) hx hb dX11_inForce_91 (by decide) ?_
            refine lv_icmp_ge (tgt := 120) hx hb dX11_inForce_93 (by decide) (fun c4 => absurd c4 (show ¬ nI 8 ≤ _ from nI_ge (by omega) (by omega))) (fun c4 => ?_)
            refine lv_aload_n hx hb dX11_inForce_96 rfl (lv_at hl 0 rfl) ?_
            refine rd_get (k := 3) (v := .ref (M 3)) hx hb hown hu hE ok12 (md_obj hM) (by decide) u760 (fun _ h => h) rfl dX11_inForce_97 ?_
            refine lv_iload hx hb dX11_inForce_100 (lv_at hl 1 rfl) ?_
            refine lv_iload hx hb dX11_inForce_102 (lv_at hl 1 rfl) ?_
            refine lv_iconst (v := 5) hx hb dX11_inForce_104 (by decide) ?_
            refine lv_icmp_ne (tgt := 112) hx hb dX11_inForce_105 (by decide) (fun c5 => ?_) (fun c5 => ?_)
            · refine lv_iconst (v := 0) hx hb dX11_inForce_112 (by decide) ?_
              refine wr_iast hx hb hE hS (md_A hM 3 rfl) hsc (vp_in_nI (N := 8) (by omega) (by decide)) dX11_inForce_113 (fun H1 locs1 hsc hz ho hS => ?_)
              have hM := md_scw hM hsc ho
              refine lv_iinc (v := nI (j + 1)) (lv' := [(4, .int (nI (j + 1))), (0, .ref (M 0))]) hx hb dX11_inForce_114 hl (k := 1) rfl (nI_1 j) (by decide) rfl (fun ls hl => ?_)
              refine lv_goto (tgt := 89) hx hb dX11_inForce_117 (by decide) ?_
              exact ih2 (j + 1) _ (by omega) (m_def_step hgs (by omega) (m_def_0 c5)) _ _ hM hsc hS _ (lv_sub hl [1, 0] rfl)
            · refine lv_iconst (v := 1) hx hb dX11_inForce_108 (by decide) ?_
              refine lv_goto (tgt := 113) hx hb dX11_inForce_109 (by decide) ?_
              refine wr_iast hx hb hE hS (md_A hM 3 rfl) hsc (vp_in_nI (N := 8) (by omega) (by decide)) dX11_inForce_113 (fun H1 locs1 hsc hz ho hS => ?_)
              have hM := md_scw hM hsc ho
              refine lv_iinc (v := nI (j + 1)) (lv' := [(4, .int (nI (j + 1))), (0, .ref (M 0))]) hx hb dX11_inForce_114 hl (k := 1) rfl (nI_1 j) (by decide) rfl (fun ls hl => ?_)
              refine lv_goto (tgt := 89) hx hb dX11_inForce_117 (by decide) ?_
              exact ih2 (j + 1) _ (by omega) (m_def_step hgs (by omega) (m_def_1 c5 (by omega))) _ _ hM hsc hS _ (lv_sub hl [1, 0] rfl)
        exact ls2 8 0 gs0 rfl (fun w hw => absurd hw (Nat.not_lt_zero w)) _ _ hM hsc hS _ (lv_sub hl [1, 0] rfl)
      · refine lv_aload_n hx hb dX11_inForce_79 rfl (lv_at hl 0 rfl) ?_
        refine rd_get (k := 1) (v := .ref (M 1)) hx hb hown hu hE ok12 (md_obj hM) (by decide) u758 (fun _ h => h) rfl dX11_inForce_80 ?_
        refine lv_iload_n hx hb dX11_inForce_83 rfl (lv_at hl 3 rfl) ?_
        refine mr_rl hx hb hE hM ((by rcases hb2 with e | ⟨j, hj, e⟩ <;> first | exact absurd e (by assumption) | (rw [e]; exact vp_in_nI (N := 60) (by omega) (by decide)))) dX11_inForce_84 ?_
        exact ct_ra hx hb hr (Or.inr ⟨_, rfl⟩) (Or.inr ⟨_, rfl⟩) hlocks hS (by obtain ⟨g1, g2, g3⟩ := mint_l (vi_lt (i := b) (by rcases hb2 with e | ⟨j, hj, e⟩ <;> first | exact absurd e (by assumption) | (rw [e]; exact vp_in_nI (N := 60) (by omega) (by decide)))); have h := md_int hM _ g1 g2; rw [g3] at h; simp only [m_ifL] at hi; exact ⟨_, _, rfl, h, fun w hw => by (unfold m_ask; rw [← hT, ← hi, if_neg (by simp [c2])]; rfl), hM⟩) (Nat.le_of_ble_eq_true rfl) (Nat.le_of_ble_eq_true rfl) dX11_inForce_85
    | succ f ih =>
      intro k b hk hi hb2 H1 locs1 hM hS ls hl
      refine lv_iload hx hb dX11_inForce_5 (lv_at hl 4 rfl) ?_
      refine lv_aload_n hx hb dX11_inForce_7 rfl (lv_at hl 0 rfl) ?_
      refine rd_get (k := 2) (v := .int (σ 2 0)) hx hb hown hu hE ok12 (md_obj hM) (by decide) u759 (fun _ h => h) rfl dX11_inForce_8 ?_
      refine lv_icmp_ge (tgt := 74) hx hb dX11_inForce_11 (by decide) (fun c6 => absurd c6 (by rw [hc]; exact nI_ge (by omega) (by omega))) (fun c6 => ?_)
      refine lv_aload_n hx hb dX11_inForce_14 rfl (lv_at hl 0 rfl) ?_
      refine rd_get (k := 1) (v := .ref (M 1)) hx hb hown hu hE ok12 (md_obj hM) (by decide) u758 (fun _ h => h) rfl dX11_inForce_15 ?_
      refine lv_iload hx hb dX11_inForce_18 (lv_at hl 4 rfl) ?_
      refine mr_rl hx hb hE hM (vp_in_nI (N := 60) (by omega) (by decide)) dX11_inForce_20 ?_
      refine lv_iconst (v := 0) hx hb dX11_inForce_21 (by decide) ?_
      refine mr_ldl (i := nI k) (jn := 0) hx hb hE hM (vp_in_nI (N := 60) (by omega) (by decide)) (by unfold vp_in; decide) rfl dX11_inForce_22 ?_
      refine lv_iload_n hx hb dX11_inForce_23 rfl (lv_at hl 1 rfl) ?_
      refine lv_icmp_ne (tgt := 68) hx hb dX11_inForce_24 (by decide) (fun c7 => ?_) (fun c7 => ?_)
      · refine lv_iinc (v := nI (k + 1)) (lv' := [(4, .int (nI (k + 1))), (0, .ref (M 0)), (1, .int ld), (2, .int dy), (3, .int b)]) hx hb dX11_inForce_68 hl (k := 4) rfl (nI_1 k) (by decide) rfl (fun ls hl => ?_)
        refine lv_goto (tgt := 5) hx hb dX11_inForce_71 (by decide) ?_
        exact ih (k + 1) _ (by omega) (by simp only [m_ifL, m_ifC, decide_eq_false c7, Bool.not_true, Bool.not_false, Bool.and_true, Bool.true_and, Bool.and_false, Bool.false_and, Bool.or_true, Bool.true_or, Bool.or_false, Bool.false_or, Bool.and_self, Bool.or_self, eq_self, if_true, Bool.false_eq_true, if_false] at hi; exact hi) hb2 _ _ hM hS _ (lv_sub hl [1, 2, 3, 4, 0] rfl)
      · refine lv_aload_n hx hb dX11_inForce_27 rfl (lv_at hl 0 rfl) ?_
        refine rd_get (k := 1) (v := .ref (M 1)) hx hb hown hu hE ok12 (md_obj hM) (by decide) u758 (fun _ h => h) rfl dX11_inForce_28 ?_
        refine lv_iload hx hb dX11_inForce_31 (lv_at hl 4 rfl) ?_
        refine mr_rl hx hb hE hM (vp_in_nI (N := 60) (by omega) (by decide)) dX11_inForce_33 ?_
        refine lv_iconst (v := 1) hx hb dX11_inForce_34 (by decide) ?_
        refine mr_ldl (i := nI k) (jn := 1) hx hb hE hM (vp_in_nI (N := 60) (by omega) (by decide)) (by unfold vp_in; decide) rfl dX11_inForce_35 ?_
        refine lv_iload_n hx hb dX11_inForce_36 rfl (lv_at hl 2 rfl) ?_
        refine lv_icmp_gt (tgt := 68) hx hb dX11_inForce_37 (by decide) (fun c8 => ?_) (fun c8 => ?_)
        · refine lv_iinc (v := nI (k + 1)) (lv' := [(4, .int (nI (k + 1))), (0, .ref (M 0)), (1, .int ld), (2, .int dy), (3, .int b)]) hx hb dX11_inForce_68 hl (k := 4) rfl (nI_1 k) (by decide) rfl (fun ls hl => ?_)
          refine lv_goto (tgt := 5) hx hb dX11_inForce_71 (by decide) ?_
          exact ih (k + 1) _ (by omega) (by simp only [m_ifL, m_ifC, decide_eq_true c7, decide_eq_true c8, Bool.not_true, Bool.not_false, Bool.and_true, Bool.true_and, Bool.and_false, Bool.false_and, Bool.or_true, Bool.true_or, Bool.or_false, Bool.false_or, Bool.and_self, Bool.or_self, eq_self, if_true, Bool.false_eq_true, if_false] at hi; exact hi) hb2 _ _ hM hS _ (lv_sub hl [1, 2, 3, 4, 0] rfl)
        · refine lv_iload_n hx hb dX11_inForce_40 rfl (lv_at hl 3 rfl) ?_
          refine lv_iconst (v := (-1)) hx hb dX11_inForce_41 (by decide) ?_
          refine lv_icmp_eq (tgt := 65) hx hb dX11_inForce_42 (by decide) (fun c9 => ?_) (fun c9 => ?_)
          · refine lv_iload hx hb dX11_inForce_65 (lv_at hl 4 rfl) ?_
            refine lv_istore_n (lv' := [(3, .int (nI k)), (0, .ref (M 0)), (1, .int ld), (2, .int dy), (4, .int (nI k))]) hx hb dX11_inForce_67 rfl hl (by decide) rfl (fun ls hl => ?_)
            refine lv_iinc (v := nI (k + 1)) (lv' := [(4, .int (nI (k + 1))), (3, .int (nI k)), (0, .ref (M 0)), (1, .int ld), (2, .int dy)]) hx hb dX11_inForce_68 hl (k := 4) rfl (nI_1 k) (by decide) rfl (fun ls hl => ?_)
            refine lv_goto (tgt := 5) hx hb dX11_inForce_71 (by decide) ?_
            exact ih (k + 1) _ (by omega) (by simp only [m_ifL, m_ifC, decide_eq_true c7, decide_eq_false c8, decide_eq_true c9, Bool.not_true, Bool.not_false, Bool.and_true, Bool.true_and, Bool.and_false, Bool.false_and, Bool.or_true, Bool.true_or, Bool.or_false, Bool.false_or, Bool.and_self, Bool.or_self, eq_self, if_true, Bool.false_eq_true, if_false] at hi; exact hi) (Or.inr ⟨k, by omega, rfl⟩) _ _ hM hS _ (lv_sub hl [2, 3, 4, 1, 0] rfl)
          · refine lv_aload_n hx hb dX11_inForce_45 rfl (lv_at hl 0 rfl) ?_
            refine rd_get (k := 1) (v := .ref (M 1)) hx hb hown hu hE ok12 (md_obj hM) (by decide) u758 (fun _ h => h) rfl dX11_inForce_46 ?_
            refine lv_iload hx hb dX11_inForce_49 (lv_at hl 4 rfl) ?_
            refine mr_rl hx hb hE hM (vp_in_nI (N := 60) (by omega) (by decide)) dX11_inForce_51 ?_
            refine lv_iconst (v := 1) hx hb dX11_inForce_52 (by decide) ?_
            refine mr_ldl (i := nI k) (jn := 1) hx hb hE hM (vp_in_nI (N := 60) (by omega) (by decide)) (by unfold vp_in; decide) rfl dX11_inForce_53 ?_
            refine lv_aload_n hx hb dX11_inForce_54 rfl (lv_at hl 0 rfl) ?_
            refine rd_get (k := 1) (v := .ref (M 1)) hx hb hown hu hE ok12 (md_obj hM) (by decide) u758 (fun _ h => h) rfl dX11_inForce_55 ?_
            refine lv_iload_n hx hb dX11_inForce_58 rfl (lv_at hl 3 rfl) ?_
            refine mr_rl hx hb hE hM ((by rcases hb2 with e | ⟨j, hj, e⟩ <;> first | exact absurd e (by assumption) | (rw [e]; exact vp_in_nI (N := 60) (by omega) (by decide)))) dX11_inForce_59 ?_
            refine lv_iconst (v := 1) hx hb dX11_inForce_60 (by decide) ?_
            refine mr_ldl (i := b) (jn := 1) hx hb hE hM ((by rcases hb2 with e | ⟨j, hj, e⟩ <;> first | exact absurd e (by assumption) | (rw [e]; exact vp_in_nI (N := 60) (by omega) (by decide)))) (by unfold vp_in; decide) rfl dX11_inForce_61 ?_
            refine lv_icmp_lt (tgt := 68) hx hb dX11_inForce_62 (by decide) (fun c10 => ?_) (fun c10 => ?_)
            · refine lv_iinc (v := nI (k + 1)) (lv' := [(4, .int (nI (k + 1))), (0, .ref (M 0)), (1, .int ld), (2, .int dy), (3, .int b)]) hx hb dX11_inForce_68 hl (k := 4) rfl (nI_1 k) (by decide) rfl (fun ls hl => ?_)
              refine lv_goto (tgt := 5) hx hb dX11_inForce_71 (by decide) ?_
              exact ih (k + 1) _ (by omega) (by simp only [m_ifL, m_ifC, decide_eq_true c7, decide_eq_false c8, decide_eq_false c9, decide_eq_true c10, Bool.not_true, Bool.not_false, Bool.and_true, Bool.true_and, Bool.and_false, Bool.false_and, Bool.or_true, Bool.true_or, Bool.or_false, Bool.false_or, Bool.and_self, Bool.or_self, eq_self, if_true, Bool.false_eq_true, if_false] at hi; exact hi) hb2 _ _ hM hS _ (lv_sub hl [1, 2, 3, 4, 0] rfl)
            · refine lv_iload hx hb dX11_inForce_65 (lv_at hl 4 rfl) ?_
              refine lv_istore_n (lv' := [(3, .int (nI k)), (0, .ref (M 0)), (1, .int ld), (2, .int dy), (4, .int (nI k))]) hx hb dX11_inForce_67 rfl hl (by decide) rfl (fun ls hl => ?_)
              refine lv_iinc (v := nI (k + 1)) (lv' := [(4, .int (nI (k + 1))), (3, .int (nI k)), (0, .ref (M 0)), (1, .int ld), (2, .int dy)]) hx hb dX11_inForce_68 hl (k := 4) rfl (nI_1 k) (by decide) rfl (fun ls hl => ?_)
              refine lv_goto (tgt := 5) hx hb dX11_inForce_71 (by decide) ?_
              exact ih (k + 1) _ (by omega) (by simp only [m_ifL, m_ifC, decide_eq_true c7, decide_eq_false c8, decide_eq_false c9, decide_eq_false c10, Bool.not_true, Bool.not_false, Bool.and_true, Bool.true_and, Bool.and_false, Bool.false_and, Bool.or_true, Bool.true_or, Bool.or_false, Bool.false_or, Bool.and_self, Bool.or_self, eq_self, if_true, Bool.false_eq_true, if_false] at hi; exact hi) (Or.inr ⟨k, by omega, rfl⟩) _ _ hM hS _ (lv_sub hl [2, 3, 4, 1, 0] rfl)
  exact lo (nn σ 2) 0 (-1) (by omega) hT.symm (Or.inl rfl) _ _ hM hS _ (lv_sub hl [2, 3, 4, 1, 0] rfl)
set_option maxHeartbeats 1000000 in
set_option maxRecDepth 20000 in
theorem c_asks (l : Launch) (E : EV) (A : Nat → Prop) (σ : St) (M : Nat → Nat) (pr dy : Int32) (w : Nat) : Ct l E yX11_asks cX11_asks 4 (some .int) 1 24 0 0 A [.ref (M 0), .int pr, .int dy, .int (nI w)] (fun H => Md E A σ M H ∧ InvM σ ∧ okP σ pr ∧ w < 8) (fun v H => v = some (.int (m_asks σ pr dy w)) ∧ Md E A σ M H) := by
  refine Ct.of (by decide +kernel) (Nat.le_of_ble_eq_true rfl) (fun pg ev s mi bel mth cd hx hb hr hml hown hu hlocks hnm hE hP hA hZ ls hl => ?_)
  have hl : lv_has ls 4 [(0, .ref (M 0)), (1, .int pr), (2, .int dy), (3, .int (nI w))] := hl
  have hS : va_S A s.heap s.heap [] := va_S.rf
  obtain ⟨hM, hI, hX, hw⟩ := hP
  refine lv_aload_n hx hb dX11_asks_0 rfl (lv_at hl 0 rfl) ?_
  refine lv_aload_n hx hb dX11_asks_1 rfl (lv_at hl 0 rfl) ?_
  refine rd_get (k := 4) (v := .ref (M 4)) hx hb hown hu hE ok12 (md_obj hM) (by decide) u761 (fun _ h => h) rfl dX11_asks_2 ?_
  refine lv_iload_n hx hb dX11_asks_5 rfl (lv_at hl 1 rfl) ?_
  refine mr_ld (t := 4) hx hb hE hM rfl (by decide) (okP_in hI hX) dX11_asks_6 ?_
  refine lv_iload_n hx hb dX11_asks_7 rfl (lv_at hl 2 rfl) ?_
  refine ct_V (As := [.int (gA σ 4 pr), .int dy]) (rest := []) hx hb hml hown hu hE hZ hS (fun _ h => h) (fun q h => hA q (Nat.le_trans hS.1 h)) (c_inForce l E A σ M (gA σ 4 pr) dy) kX11_inForce u937 (md_obj hM) rfl rfl (⟨hM, hI⟩) ⟨Nat.le_of_ble_eq_true rfl, Nat.le_of_ble_eq_true rfl⟩ rfl hl.1 rfl (Nat.le_of_ble_eq_true rfl) ⟨Nat.le_of_ble_eq_true rfl, Nat.le_of_ble_eq_true rfl⟩ dX11_asks_8 (fun v1 H1 locs1 hR hS hz hk => ?_)
  obtain ⟨ra, rf, rfl, hia, hask, hM⟩ := hR
  refine lv_iload_n hx hb dX11_asks_11 rfl (lv_at hl 3 rfl) ?_
  refine rd_iald hx hb hE hia (vp_in_nI hw (by decide)) dX11_asks_12 ?_
  exact ct_ri hx hb hr hlocks hS (⟨by rw [nI_clamp (by omega), hask w hw]; rfl, hM⟩) (Nat.le_of_ble_eq_true rfl) (Nat.le_of_ble_eq_true rfl) dX11_asks_13
set_option maxHeartbeats 1000000 in
set_option maxRecDepth 20000 in
theorem c_hasPaper (l : Launch) (E : EV) (A : Nat → Prop) (σ : St) (M : Nat → Nat) (pr kd dy : Int32) : Ct l E yX11_hasPaper cX11_hasPaper 5 (some .boolean) 2 47 0 0 A [.ref (M 0), .int pr, .int kd, .int dy] (fun H => Md E A σ M H ∧ InvM σ ∧ okP σ pr) (fun v H => v = some (.int (bI (m_hasPaper σ pr kd dy))) ∧ Md E A σ M H) := by
  refine Ct.of (by decide +kernel) (Nat.le_of_ble_eq_true rfl) (fun pg ev s mi bel mth cd hx hb hr hml hown hu hlocks hnm hE hP hA hZ ls hl => ?_)
  have hl : lv_has ls 5 [(0, .ref (M 0)), (1, .int pr), (2, .int kd), (3, .int dy)] := hl
  have hS : va_S A s.heap s.heap [] := va_S.rf
  obtain ⟨hM, hI, hX⟩ := hP
  have hn := cnt_le (N := 200) hI.1.2.2.2.1
  have hc := cnt_nI hI.1.2.2.2.1
  refine lv_iconst (v := 0) hx hb dX11_hasPaper_0 (by decide) ?_
  refine lv_istore (lv' := [(4, .int 0), (0, .ref (M 0)), (1, .int pr), (2, .int kd), (3, .int dy)]) hx hb dX11_hasPaper_1 hl (by decide) rfl (fun ls hl => ?_)
  obtain ⟨T, hT⟩ : ∃ z, z = m_hasPaper σ pr kd dy := ⟨_, rfl⟩
  have lo : ∀ (f k : Nat), (k + f = nn σ 15) → (m_hpL σ pr kd dy f k = T) → ∀ (H1 : Heap) (locs1 : List Loc), Md E A σ M H1 → va_S A s.heap H1 locs1 → ∀ (ls : Array Slot), lv_has ls 5 [(0, .ref (M 0)), (1, .int pr), (2, .int kd), (3, .int dy), (4, .int (nI k))] → W pg l ev { frames := 2, cells := 0, slots := 0, locals := 47 } s mi [.ref (M 0), .int pr, .int kd, .int dy].toArray bel mth cd H1 locs1 0 0 (QT bel s [.ref (M 0), .int pr, .int kd, .int dy].toArray 0 0 A (fun v H => v = some (.int (bI (m_hasPaper σ pr kd dy))) ∧ Md E A σ M H)) (F0 mi 3 ls []) := by
    intro f
    induction f with
    | zero =>
      intro k hk hi H1 locs1 hM hS ls hl
      refine lv_iload hx hb dX11_hasPaper_3 (lv_at hl 4 rfl) ?_
      refine lv_aload_n hx hb dX11_hasPaper_5 rfl (lv_at hl 0 rfl) ?_
      refine rd_get (k := 15) (v := .int (σ 15 0)) hx hb hown hu hE ok12 (md_obj hM) (by decide) u772 (fun _ h => h) rfl dX11_hasPaper_6 ?_
      refine lv_icmp_ge (tgt := 72) hx hb dX11_hasPaper_9 (by decide) (fun c1 => ?_) (fun c1 => absurd (by rw [hc]; exact nI_le (by omega) (by omega)) c1)
      refine lv_iconst (v := 0) hx hb dX11_hasPaper_72 (by decide) ?_
      exact ct_rz hx hb hr hlocks hS (⟨by simp only [m_hpL] at hi; rw [← hT, ← hi]; rfl, hM⟩) (rfl) (Nat.le_of_ble_eq_true rfl) (Nat.le_of_ble_eq_true rfl) dX11_hasPaper_73
    | succ f ih =>
      intro k hk hi H1 locs1 hM hS ls hl
      refine lv_iload hx hb dX11_hasPaper_3 (lv_at hl 4 rfl) ?_
      refine lv_aload_n hx hb dX11_hasPaper_5 rfl (lv_at hl 0 rfl) ?_
      refine rd_get (k := 15) (v := .int (σ 15 0)) hx hb hown hu hE ok12 (md_obj hM) (by decide) u772 (fun _ h => h) rfl dX11_hasPaper_6 ?_
      refine lv_icmp_ge (tgt := 72) hx hb dX11_hasPaper_9 (by decide) (fun c2 => absurd c2 (by rw [hc]; exact nI_ge (by omega) (by omega))) (fun c2 => ?_)
      refine lv_aload_n hx hb dX11_hasPaper_12 rfl (lv_at hl 0 rfl) ?_
      refine rd_get (k := 12) (v := .ref (M 12)) hx hb hown hu hE ok12 (md_obj hM) (by decide) u769 (fun _ h => h) rfl dX11_hasPaper_13 ?_
      refine lv_iload hx hb dX11_hasPaper_16 (lv_at hl 4 rfl) ?_
      refine mr_ld (t := 12) hx hb hE hM rfl (by decide) (vp_in_nI (N := 200) (by omega) (by decide)) dX11_hasPaper_18 ?_
      refine lv_iload_n hx hb dX11_hasPaper_19 rfl (lv_at hl 1 rfl) ?_
      refine lv_icmp_ne (tgt := 66) hx hb dX11_hasPaper_20 (by decide) (fun c3 => ?_) (fun c3 => ?_)
      · refine lv_iinc (v := nI (k + 1)) (lv' := [(4, .int (nI (k + 1))), (0, .ref (M 0)), (1, .int pr), (2, .int kd), (3, .int dy)]) hx hb dX11_hasPaper_66 hl (k := 4) rfl (nI_1 k) (by decide) rfl (fun ls hl => ?_)
        refine lv_goto (tgt := 3) hx hb dX11_hasPaper_69 (by decide) ?_
        exact ih (k + 1) (by omega) (by simp only [m_hpL, m_hpC, decide_eq_false c3, Bool.not_true, Bool.not_false, Bool.and_true, Bool.true_and, Bool.and_false, Bool.false_and, Bool.or_true, Bool.true_or, Bool.or_false, Bool.false_or, Bool.and_self, Bool.or_self, eq_self, if_true, Bool.false_eq_true, if_false] at hi; exact hi) _ _ hM hS _ (lv_sub hl [1, 2, 3, 4, 0] rfl)
      · refine lv_aload_n hx hb dX11_hasPaper_23 rfl (lv_at hl 0 rfl) ?_
        refine rd_get (k := 13) (v := .ref (M 13)) hx hb hown hu hE ok12 (md_obj hM) (by decide) u770 (fun _ h => h) rfl dX11_hasPaper_24 ?_
        refine lv_iload hx hb dX11_hasPaper_27 (lv_at hl 4 rfl) ?_
        refine mr_ld (t := 13) hx hb hE hM rfl (by decide) (vp_in_nI (N := 200) (by omega) (by decide)) dX11_hasPaper_29 ?_
        refine lv_iload_n hx hb dX11_hasPaper_30 rfl (lv_at hl 2 rfl) ?_
        refine lv_icmp_ne (tgt := 66) hx hb dX11_hasPaper_31 (by decide) (fun c4 => ?_) (fun c4 => ?_)
        · refine lv_iinc (v := nI (k + 1)) (lv' := [(4, .int (nI (k + 1))), (0, .ref (M 0)), (1, .int pr), (2, .int kd), (3, .int dy)]) hx hb dX11_hasPaper_66 hl (k := 4) rfl (nI_1 k) (by decide) rfl (fun ls hl => ?_)
          refine lv_goto (tgt := 3) hx hb dX11_hasPaper_69 (by decide) ?_
          exact ih (k + 1) (by omega) (by simp only [m_hpL, m_hpC, decide_eq_true c3, decide_eq_false c4, Bool.not_true, Bool.not_false, Bool.and_true, Bool.true_and, Bool.and_false, Bool.false_and, Bool.or_true, Bool.true_or, Bool.or_false, Bool.false_or, Bool.and_self, Bool.or_self, eq_self, if_true, Bool.false_eq_true, if_false] at hi; exact hi) _ _ hM hS _ (lv_sub hl [1, 2, 3, 4, 0] rfl)
        · refine lv_aload_n hx hb dX11_hasPaper_34 rfl (lv_at hl 0 rfl) ?_
          refine rd_get (k := 14) (v := .ref (M 14)) hx hb hown hu hE ok12 (md_obj hM) (by decide) u771 (fun _ h => h) rfl dX11_hasPaper_35 ?_
          refine lv_iload hx hb dX11_hasPaper_38 (lv_at hl 4 rfl) ?_
          refine mr_ld (t := 14) hx hb hE hM rfl (by decide) (vp_in_nI (N := 200) (by omega) (by decide)) dX11_hasPaper_40 ?_
          refine lv_iload_n hx hb dX11_hasPaper_41 rfl (lv_at hl 3 rfl) ?_
          refine lv_icmp_gt (tgt := 66) hx hb dX11_hasPaper_42 (by decide) (fun c5 => ?_) (fun c5 => ?_)
          · refine lv_iinc (v := nI (k + 1)) (lv' := [(4, .int (nI (k + 1))), (0, .ref (M 0)), (1, .int pr), (2, .int kd), (3, .int dy)]) hx hb dX11_hasPaper_66 hl (k := 4) rfl (nI_1 k) (by decide) rfl (fun ls hl => ?_)
            refine lv_goto (tgt := 3) hx hb dX11_hasPaper_69 (by decide) ?_
            exact ih (k + 1) (by omega) (by simp only [m_hpL, m_hpC, decide_eq_true c3, decide_eq_true c4, decide_eq_true c5, Bool.not_true, Bool.not_false, Bool.and_true, Bool.true_and, Bool.and_false, Bool.false_and, Bool.or_true, Bool.true_or, Bool.or_false, Bool.false_or, Bool.and_self, Bool.or_self, eq_self, if_true, Bool.false_eq_true, if_false] at hi; exact hi) _ _ hM hS _ (lv_sub hl [1, 2, 3, 4, 0] rfl)
          · refine lv_aload_n hx hb dX11_hasPaper_45 rfl (lv_at hl 0 rfl) ?_
            refine lv_iload_n hx hb dX11_hasPaper_46 rfl (lv_at hl 1 rfl) ?_
            refine lv_iload_n hx hb dX11_hasPaper_47 rfl (lv_at hl 3 rfl) ?_
            refine lv_iconst (v := 5) hx hb dX11_hasPaper_48 (by decide) ?_
            refine ct_V (As := [.int pr, .int dy, .int 5]) (rest := []) hx hb hml hown hu hE hZ hS (fun _ h => h) (fun q h => hA q (Nat.le_trans hS.1 h)) (c_asks l E A σ M pr dy 5) kX11_asks u933 (md_obj hM) rfl rfl (⟨hM, hI, hX, by decide⟩) ⟨Nat.le_of_ble_eq_true rfl, Nat.le_of_ble_eq_true rfl⟩ rfl hl.1 rfl (Nat.le_of_ble_eq_true rfl) ⟨Nat.le_of_ble_eq_true rfl, Nat.le_of_ble_eq_true rfl⟩ dX11_hasPaper_49 (fun v6 H1 locs1 hR hS hz hk => ?_)
            obtain ⟨rfl, hM⟩ := hR
            refine lv_iload_n hx hb dX11_hasPaper_52 rfl (lv_at hl 3 rfl) ?_
            refine lv_aload_n hx hb dX11_hasPaper_53 rfl (lv_at hl 0 rfl) ?_
            refine rd_get (k := 14) (v := .ref (M 14)) hx hb hown hu hE ok12 (md_obj hM) (by decide) u771 (fun _ h => h) rfl dX11_hasPaper_54 ?_
            refine lv_iload hx hb dX11_hasPaper_57 (lv_at hl 4 rfl) ?_
            refine mr_ld (t := 14) hx hb hE hM rfl (by decide) (vp_in_nI (N := 200) (by omega) (by decide)) dX11_hasPaper_59 ?_
            refine lv_isub hx hb dX11_hasPaper_60 ?_
            refine lv_icmp_le (tgt := 66) hx hb dX11_hasPaper_61 (by decide) (fun c7 => ?_) (fun c7 => ?_)
            · refine lv_iinc (v := nI (k + 1)) (lv' := [(4, .int (nI (k + 1))), (0, .ref (M 0)), (1, .int pr), (2, .int kd), (3, .int dy)]) hx hb dX11_hasPaper_66 hl (k := 4) rfl (nI_1 k) (by decide) rfl (fun ls hl => ?_)
              refine lv_goto (tgt := 3) hx hb dX11_hasPaper_69 (by decide) ?_
              exact ih (k + 1) (by omega) (by simp only [m_hpL, m_hpC, decide_eq_true c3, decide_eq_true c4, decide_eq_false c5, decide_eq_false (Int32.not_lt.mpr c7), Bool.not_true, Bool.not_false, Bool.and_true, Bool.true_and, Bool.and_false, Bool.false_and, Bool.or_true, Bool.true_or, Bool.or_false, Bool.false_or, Bool.and_self, Bool.or_self, eq_self, if_true, Bool.false_eq_true, if_false] at hi; exact hi) _ _ hM hS _ (lv_sub hl [1, 2, 3, 4, 0] rfl)
            · refine lv_iconst (v := 1) hx hb dX11_hasPaper_64 (by decide) ?_
              exact ct_rz hx hb hr hlocks hS (⟨by simp only [m_hpL, m_hpC, decide_eq_true c3, decide_eq_true c4, decide_eq_false c5, decide_eq_true (Int32.not_le.mp c7), Bool.not_true, Bool.not_false, Bool.and_true, Bool.true_and, Bool.and_false, Bool.false_and, Bool.or_true, Bool.true_or, Bool.or_false, Bool.false_or, Bool.and_self, Bool.or_self, eq_self, if_true, Bool.false_eq_true, if_false] at hi; rw [← hT, ← hi]; rfl, hM⟩) (rfl) (Nat.le_of_ble_eq_true rfl) (Nat.le_of_ble_eq_true rfl) dX11_hasPaper_65
  exact lo (nn σ 15) 0 (by omega) hT.symm _ _ hM hS _ (lv_sub hl [1, 2, 3, 4, 0] rfl)
set_option maxHeartbeats 1000000 in
set_option maxRecDepth 20000 in
theorem c_isYoung (l : Launch) (E : EV) (A : Nat → Prop) (σ : St) (M : Nat → Nat) (pr dy : Int32) : Ct l E yX11_isYoung cX11_isYoung 3 (some .boolean) 2 47 0 0 A [.ref (M 0), .int pr, .int dy] (fun H => Md E A σ M H ∧ InvM σ ∧ okP σ pr) (fun v H => v = some (.int (bI (m_isYoung σ pr dy))) ∧ Md E A σ M H) := by
  refine Ct.of (by decide +kernel) (Nat.le_of_ble_eq_true rfl) (fun pg ev s mi bel mth cd hx hb hr hml hown hu hlocks hnm hE hP hA hZ ls hl => ?_)
  have hl : lv_has ls 3 [(0, .ref (M 0)), (1, .int pr), (2, .int dy)] := hl
  have hS : va_S A s.heap s.heap [] := va_S.rf
  obtain ⟨hM, hI, hX⟩ := hP
  refine lv_iload_n hx hb dX11_isYoung_0 rfl (lv_at hl 2 rfl) ?_
  refine lv_aload_n hx hb dX11_isYoung_1 rfl (lv_at hl 0 rfl) ?_
  refine rd_get (k := 5) (v := .ref (M 5)) hx hb hown hu hE ok12 (md_obj hM) (by decide) u762 (fun _ h => h) rfl dX11_isYoung_2 ?_
  refine lv_iload_n hx hb dX11_isYoung_5 rfl (lv_at hl 1 rfl) ?_
  refine mr_ld (t := 5) hx hb hE hM rfl (by decide) (okP_in hI hX) dX11_isYoung_6 ?_
  refine lv_isub hx hb dX11_isYoung_7 ?_
  refine lv_sipush (v := 365) hx hb dX11_isYoung_8 (by decide) ?_
  refine lv_aload_n hx hb dX11_isYoung_11 rfl (lv_at hl 0 rfl) ?_
  refine lv_iload_n hx hb dX11_isYoung_12 rfl (lv_at hl 1 rfl) ?_
  refine lv_iload_n hx hb dX11_isYoung_13 rfl (lv_at hl 2 rfl) ?_
  refine lv_iconst (v := 2) hx hb dX11_isYoung_14 (by decide) ?_
  refine ct_V (As := [.int pr, .int dy, .int 2]) (rest := [.int 365, .int (dy - (gA σ 5 pr))]) hx hb hml hown hu hE hZ hS (fun _ h => h) (fun q h => hA q (Nat.le_trans hS.1 h)) (c_asks l E A σ M pr dy 2) kX11_asks u933 (md_obj hM) rfl rfl (⟨hM, hI, hX, by decide⟩) ⟨Nat.le_of_ble_eq_true rfl, Nat.le_of_ble_eq_true rfl⟩ rfl hl.1 rfl (Nat.le_of_ble_eq_true rfl) ⟨Nat.le_of_ble_eq_true rfl, Nat.le_of_ble_eq_true rfl⟩ dX11_isYoung_15 (fun v1 H1 locs1 hR hS hz hk => ?_)
  obtain ⟨rfl, hM⟩ := hR
  refine lv_imul hx hb dX11_isYoung_18 ?_
  refine lv_icmp_ge (tgt := 26) hx hb dX11_isYoung_19 (by decide) (fun c2 => ?_) (fun c2 => ?_)
  · refine lv_iconst (v := 0) hx hb dX11_isYoung_26 (by decide) ?_
    exact ct_rz hx hb hr hlocks hS (⟨(by simp only [m_isYoung, decide_eq_false (Int32.not_lt.mpr c2), Bool.not_true, Bool.not_false, Bool.and_true, Bool.true_and, Bool.and_false, Bool.false_and, Bool.or_true, Bool.true_or, Bool.or_false, Bool.false_or, Bool.and_self, Bool.or_self, eq_self, if_true, Bool.false_eq_true, if_false] <;> rfl), hM⟩) (rfl) (Nat.le_of_ble_eq_true rfl) (Nat.le_of_ble_eq_true rfl) dX11_isYoung_27
  · refine lv_iconst (v := 1) hx hb dX11_isYoung_22 (by decide) ?_
    refine lv_goto (tgt := 27) hx hb dX11_isYoung_23 (by decide) ?_
    exact ct_rz hx hb hr hlocks hS (⟨(by simp only [m_isYoung, decide_eq_true (Int32.not_le.mp c2), Bool.not_true, Bool.not_false, Bool.and_true, Bool.true_and, Bool.and_false, Bool.false_and, Bool.or_true, Bool.true_or, Bool.or_false, Bool.false_or, Bool.and_self, Bool.or_self, eq_self, if_true, Bool.false_eq_true, if_false] <;> rfl), hM⟩) (rfl) (Nat.le_of_ble_eq_true rfl) (Nat.le_of_ble_eq_true rfl) dX11_isYoung_27
set_option maxHeartbeats 1000000 in
set_option maxRecDepth 20000 in
theorem c_lacks (l : Launch) (E : EV) (A : Nat → Prop) (σ : St) (M : Nat → Nat) (pr dy : Int32) : Ct l E yX11_lacks cX11_lacks 4 (some .boolean) 3 71 0 0 A [.ref (M 0), .int pr, .int dy] (fun H => Md E A σ M H ∧ InvM σ ∧ okP σ pr) (fun v H => v = some (.int (bI (m_lacks σ pr dy))) ∧ Md E A σ M H) := by
  refine Ct.of (by decide +kernel) (Nat.le_of_ble_eq_true rfl) (fun pg ev s mi bel mth cd hx hb hr hml hown hu hlocks hnm hE hP hA hZ ls hl => ?_)
  have hl : lv_has ls 4 [(0, .ref (M 0)), (1, .int pr), (2, .int dy)] := hl
  have hS : va_S A s.heap s.heap [] := va_S.rf
  obtain ⟨hM, hI, hX⟩ := hP
  refine lv_iconst (v := 0) hx hb dX11_lacks_0 (by decide) ?_
  refine lv_istore_n (lv' := [(3, .int 0), (0, .ref (M 0)), (1, .int pr), (2, .int dy)]) hx hb dX11_lacks_1 rfl hl (by decide) rfl (fun ls hl => ?_)
  obtain ⟨T, hT⟩ : ∃ z, z = m_lacks σ pr dy := ⟨_, rfl⟩
  have lo : ∀ (f k : Nat), (k + f = 3) → (m_laL σ pr dy f k = T) → ∀ (H1 : Heap) (locs1 : List Loc), Md E A σ M H1 → va_S A s.heap H1 locs1 → ∀ (ls : Array Slot), lv_has ls 4 [(0, .ref (M 0)), (1, .int pr), (2, .int dy), (3, .int (nI k))] → W pg l ev { frames := 3, cells := 0, slots := 0, locals := 71 } s mi [.ref (M 0), .int pr, .int dy].toArray bel mth cd H1 locs1 0 0 (QT bel s [.ref (M 0), .int pr, .int dy].toArray 0 0 A (fun v H => v = some (.int (bI (m_lacks σ pr dy))) ∧ Md E A σ M H)) (F0 mi 2 ls []) := by
    intro f
    induction f with
    | zero =>
      intro k hk hi H1 locs1 hM hS ls hl
      refine lv_iload_n hx hb dX11_lacks_2 rfl (lv_at hl 3 rfl) ?_
      refine lv_iconst (v := 3) hx hb dX11_lacks_3 (by decide) ?_
      refine lv_icmp_ge (tgt := 40) hx hb dX11_lacks_4 (by decide) (fun c1 => ?_) (fun c1 => absurd (show nI 3 ≤ _ from nI_le (by omega) (by omega)) c1)
      refine lv_iconst (v := 0) hx hb dX11_lacks_40 (by decide) ?_
      exact ct_rz hx hb hr hlocks hS (⟨by simp only [m_laL] at hi; rw [← hT, ← hi]; rfl, hM⟩) (rfl) (Nat.le_of_ble_eq_true rfl) (Nat.le_of_ble_eq_true rfl) dX11_lacks_41
    | succ f ih =>
      intro k hk hi H1 locs1 hM hS ls hl
      refine lv_iload_n hx hb dX11_lacks_2 rfl (lv_at hl 3 rfl) ?_
      refine lv_iconst (v := 3) hx hb dX11_lacks_3 (by decide) ?_
      refine lv_icmp_ge (tgt := 40) hx hb dX11_lacks_4 (by decide) (fun c2 => absurd c2 (show ¬ nI 3 ≤ _ from nI_ge (by omega) (by omega))) (fun c2 => ?_)
      refine lv_aload_n hx hb dX11_lacks_7 rfl (lv_at hl 0 rfl) ?_
      refine lv_iload_n hx hb dX11_lacks_8 rfl (lv_at hl 1 rfl) ?_
      refine lv_iload_n hx hb dX11_lacks_9 rfl (lv_at hl 2 rfl) ?_
      refine lv_iconst (v := 4) hx hb dX11_lacks_10 (by decide) ?_
      refine ct_V (As := [.int pr, .int dy, .int 4]) (rest := []) hx hb hml hown hu hE hZ hS (fun _ h => h) (fun q h => hA q (Nat.le_trans hS.1 h)) (c_asks l E A σ M pr dy 4) kX11_asks u933 (md_obj hM) rfl rfl (⟨hM, hI, hX, by decide⟩) ⟨Nat.le_of_ble_eq_true rfl, Nat.le_of_ble_eq_true rfl⟩ rfl hl.1 rfl (Nat.le_of_ble_eq_true rfl) ⟨Nat.le_of_ble_eq_true rfl, Nat.le_of_ble_eq_true rfl⟩ dX11_lacks_11 (fun v3 H1 locs1 hR hS hz hk => ?_)
      obtain ⟨rfl, hM⟩ := hR
      refine lv_iload_n hx hb dX11_lacks_14 rfl (lv_at hl 3 rfl) ?_
      refine lv_ishr hx hb dX11_lacks_15 ?_
      refine lv_iconst (v := 1) hx hb dX11_lacks_16 (by decide) ?_
      refine lv_iand hx hb dX11_lacks_17 ?_
      refine lv_iconst (v := 1) hx hb dX11_lacks_18 (by decide) ?_
      refine lv_icmp_ne (tgt := 34) hx hb dX11_lacks_19 (by decide) (fun c4 => ?_) (fun c4 => ?_)
      · refine lv_iinc (v := nI (k + 1)) (lv' := [(3, .int (nI (k + 1))), (0, .ref (M 0)), (1, .int pr), (2, .int dy)]) hx hb dX11_lacks_34 hl (k := 3) rfl (nI_1 k) (by decide) rfl (fun ls hl => ?_)
        refine lv_goto (tgt := 2) hx hb dX11_lacks_37 (by decide) ?_
        exact ih (k + 1) (by omega) (by simp only [m_laL, m_wants, decide_eq_false c4, Bool.not_true, Bool.not_false, Bool.and_true, Bool.true_and, Bool.and_false, Bool.false_and, Bool.or_true, Bool.true_or, Bool.or_false, Bool.false_or, Bool.and_self, Bool.or_self, eq_self, if_true, Bool.false_eq_true, if_false] at hi; exact hi) _ _ hM hS _ (lv_sub hl [1, 2, 3, 0] rfl)
      · refine lv_aload_n hx hb dX11_lacks_22 rfl (lv_at hl 0 rfl) ?_
        refine lv_iload_n hx hb dX11_lacks_23 rfl (lv_at hl 1 rfl) ?_
        refine lv_iload_n hx hb dX11_lacks_24 rfl (lv_at hl 3 rfl) ?_
        refine lv_iload_n hx hb dX11_lacks_25 rfl (lv_at hl 2 rfl) ?_
        refine ct_V (As := [.int pr, .int (nI k), .int dy]) (rest := []) hx hb hml hown hu hE hZ hS (fun _ h => h) (fun q h => hA q (Nat.le_trans hS.1 h)) (c_hasPaper l E A σ M pr (nI k) dy) kX11_hasPaper u945 (md_obj hM) rfl rfl (⟨hM, hI, hX⟩) ⟨Nat.le_of_ble_eq_true rfl, Nat.le_of_ble_eq_true rfl⟩ rfl hl.1 rfl (Nat.le_of_ble_eq_true rfl) ⟨Nat.le_of_ble_eq_true rfl, Nat.le_of_ble_eq_true rfl⟩ dX11_lacks_26 (fun v5 H1 locs1 hR hS hz hk => ?_)
        obtain ⟨rfl, hM⟩ := hR
        refine onB (fun b6 => ?_) (fun b6 => ?_)
        · refine lv_if_ne (tgt := 34) hx hb dX11_lacks_29 (by decide) (fun _ => ?_) (fun c7 => absurd c7 (by decide))
          refine lv_iinc (v := nI (k + 1)) (lv' := [(3, .int (nI (k + 1))), (0, .ref (M 0)), (1, .int pr), (2, .int dy)]) hx hb dX11_lacks_34 hl (k := 3) rfl (nI_1 k) (by decide) rfl (fun ls hl => ?_)
          refine lv_goto (tgt := 2) hx hb dX11_lacks_37 (by decide) ?_
          exact ih (k + 1) (by omega) (by simp only [m_laL, m_wants, decide_eq_true c4, b6, Bool.not_true, Bool.not_false, Bool.and_true, Bool.true_and, Bool.and_false, Bool.false_and, Bool.or_true, Bool.true_or, Bool.or_false, Bool.false_or, Bool.and_self, Bool.or_self, eq_self, if_true, Bool.false_eq_true, if_false] at hi; exact hi) _ _ hM hS _ (lv_sub hl [1, 2, 3, 0] rfl)
        · refine lv_if_ne (tgt := 34) hx hb dX11_lacks_29 (by decide) (fun c8 => absurd c8 (by decide)) (fun _ => ?_)
          refine lv_iconst (v := 1) hx hb dX11_lacks_32 (by decide) ?_
          exact ct_rz hx hb hr hlocks hS (⟨by simp only [m_laL, m_wants, decide_eq_true c4, b6, Bool.not_true, Bool.not_false, Bool.and_true, Bool.true_and, Bool.and_false, Bool.false_and, Bool.or_true, Bool.true_or, Bool.or_false, Bool.false_or, Bool.and_self, Bool.or_self, eq_self, if_true, Bool.false_eq_true, if_false] at hi; rw [← hT, ← hi]; rfl, hM⟩) (rfl) (Nat.le_of_ble_eq_true rfl) (Nat.le_of_ble_eq_true rfl) dX11_lacks_33
  exact lo 3 0 rfl hT.symm _ _ hM hS _ (lv_sub hl [1, 2, 3, 0] rfl)
set_option maxHeartbeats 1000000 in
set_option maxRecDepth 20000 in
theorem c_stands (l : Launch) (E : EV) (A : Nat → Prop) (σ : St) (M : Nat → Nat) (a b dy : Int32) : Ct l E yX11_stands cX11_stands 5 (some .int) 4 94 0 0 A [.ref (M 0), .int a, .int b, .int dy] (fun H => Md E A σ M H ∧ InvM σ ∧ okP σ a ∧ okP σ b) (fun v H => v = some (.int (m_stands σ a b dy)) ∧ Md E A σ M H) := by
  refine Ct.of (by decide +kernel) (Nat.le_of_ble_eq_true rfl) (fun pg ev s mi bel mth cd hx hb hr hml hown hu hlocks hnm hE hP hA hZ ls hl => ?_)
  have hl : lv_has ls 5 [(0, .ref (M 0)), (1, .int a), (2, .int b), (3, .int dy)] := hl
  have hS : va_S A s.heap s.heap [] := va_S.rf
  obtain ⟨hM, hI, hX⟩ := hP
  refine lv_aload_n hx hb dX11_stands_0 rfl (lv_at hl 0 rfl) ?_
  refine rd_get (k := 10) (v := .ref (M 10)) hx hb hown hu hE ok12 (md_obj hM) (by decide) u767 (fun _ h => h) rfl dX11_stands_1 ?_
  refine lv_iload_n hx hb dX11_stands_4 rfl (lv_at hl 1 rfl) ?_
  refine mr_ld (t := 10) hx hb hE hM rfl (by decide) (okP_in hI hX.1) dX11_stands_5 ?_
  refine lv_iconst (v := (-1)) hx hb dX11_stands_6 (by decide) ?_
  refine lv_icmp_ne (tgt := 20) hx hb dX11_stands_7 (by decide) (fun c1 => ?_) (fun c1 => ?_)
  · refine lv_iconst (v := 1) hx hb dX11_stands_20 (by decide) ?_
    exact ct_ri hx hb hr hlocks hS (⟨(by simp only [m_stands, decide_eq_false c1, Bool.not_true, Bool.not_false, Bool.and_true, Bool.true_and, Bool.and_false, Bool.false_and, Bool.or_true, Bool.true_or, Bool.or_false, Bool.false_or, Bool.and_self, Bool.or_self, eq_self, if_true, Bool.false_eq_true, if_false]), hM⟩) (Nat.le_of_ble_eq_true rfl) (Nat.le_of_ble_eq_true rfl) dX11_stands_21
  · refine lv_aload_n hx hb dX11_stands_10 rfl (lv_at hl 0 rfl) ?_
    refine rd_get (k := 10) (v := .ref (M 10)) hx hb hown hu hE ok12 (md_obj hM) (by decide) u767 (fun _ h => h) rfl dX11_stands_11 ?_
    refine lv_iload_n hx hb dX11_stands_14 rfl (lv_at hl 2 rfl) ?_
    refine mr_ld (t := 10) hx hb hE hM rfl (by decide) (okP_in hI hX.2) dX11_stands_15 ?_
    refine lv_iconst (v := (-1)) hx hb dX11_stands_16 (by decide) ?_
    refine lv_icmp_eq (tgt := 22) hx hb dX11_stands_17 (by decide) (fun c2 => ?_) (fun c2 => ?_)
    · refine lv_aload_n hx hb dX11_stands_22 rfl (lv_at hl 0 rfl) ?_
      refine lv_iload_n hx hb dX11_stands_23 rfl (lv_at hl 1 rfl) ?_
      refine lv_iload_n hx hb dX11_stands_24 rfl (lv_at hl 3 rfl) ?_
      refine ct_V (As := [.int a, .int dy]) (rest := []) hx hb hml hown hu hE hZ hS (fun _ h => h) (fun q h => hA q (Nat.le_trans hS.1 h)) (c_isYoung l E A σ M a dy) kX11_isYoung u929 (md_obj hM) rfl rfl (⟨hM, hI, hX.1⟩) ⟨Nat.le_of_ble_eq_true rfl, Nat.le_of_ble_eq_true rfl⟩ rfl hl.1 rfl (Nat.le_of_ble_eq_true rfl) ⟨Nat.le_of_ble_eq_true rfl, Nat.le_of_ble_eq_true rfl⟩ dX11_stands_25 (fun v3 H1 locs1 hR hS hz hk => ?_)
      obtain ⟨rfl, hM⟩ := hR
      refine onB (fun b4 => ?_) (fun b4 => ?_)
      · refine lv_if_ne (tgt := 40) hx hb dX11_stands_28 (by decide) (fun _ => ?_) (fun c5 => absurd c5 (by decide))
        refine lv_iconst (v := 2) hx hb dX11_stands_40 (by decide) ?_
        exact ct_ri hx hb hr hlocks hS (⟨(by simp only [m_stands, decide_eq_true c1, decide_eq_true c2, b4, Bool.not_true, Bool.not_false, Bool.and_true, Bool.true_and, Bool.and_false, Bool.false_and, Bool.or_true, Bool.true_or, Bool.or_false, Bool.false_or, Bool.and_self, Bool.or_self, eq_self, if_true, Bool.false_eq_true, if_false]), hM⟩) (Nat.le_of_ble_eq_true rfl) (Nat.le_of_ble_eq_true rfl) dX11_stands_41
      · refine lv_if_ne (tgt := 40) hx hb dX11_stands_28 (by decide) (fun c6 => absurd c6 (by decide)) (fun _ => ?_)
        refine lv_aload_n hx hb dX11_stands_31 rfl (lv_at hl 0 rfl) ?_
        refine lv_iload_n hx hb dX11_stands_32 rfl (lv_at hl 2 rfl) ?_
        refine lv_iload_n hx hb dX11_stands_33 rfl (lv_at hl 3 rfl) ?_
        refine ct_V (As := [.int b, .int dy]) (rest := []) hx hb hml hown hu hE hZ hS (fun _ h => h) (fun q h => hA q (Nat.le_trans hS.1 h)) (c_isYoung l E A σ M b dy) kX11_isYoung u929 (md_obj hM) rfl rfl (⟨hM, hI, hX.2⟩) ⟨Nat.le_of_ble_eq_true rfl, Nat.le_of_ble_eq_true rfl⟩ rfl hl.1 rfl (Nat.le_of_ble_eq_true rfl) ⟨Nat.le_of_ble_eq_true rfl, Nat.le_of_ble_eq_true rfl⟩ dX11_stands_34 (fun v7 H1 locs1 hR hS hz hk => ?_)
        obtain ⟨rfl, hM⟩ := hR
        refine onB (fun b8 => ?_) (fun b8 => ?_)
        · refine lv_if_eq (tgt := 42) hx hb dX11_stands_37 (by decide) (fun c9 => absurd c9 (by decide)) (fun _ => ?_)
          refine lv_iconst (v := 2) hx hb dX11_stands_40 (by decide) ?_
          exact ct_ri hx hb hr hlocks hS (⟨(by simp only [m_stands, decide_eq_true c1, decide_eq_true c2, b4, b8, Bool.not_true, Bool.not_false, Bool.and_true, Bool.true_and, Bool.and_false, Bool.false_and, Bool.or_true, Bool.true_or, Bool.or_false, Bool.false_or, Bool.and_self, Bool.or_self, eq_self, if_true, Bool.false_eq_true, if_false]), hM⟩) (Nat.le_of_ble_eq_true rfl) (Nat.le_of_ble_eq_true rfl) dX11_stands_41
        · refine lv_if_eq (tgt := 42) hx hb dX11_stands_37 (by decide) (fun _ => ?_) (fun c10 => absurd (by decide) c10)
          refine lv_aload_n hx hb dX11_stands_42 rfl (lv_at hl 0 rfl) ?_
          refine lv_iload_n hx hb dX11_stands_43 rfl (lv_at hl 1 rfl) ?_
          refine lv_iload_n hx hb dX11_stands_44 rfl (lv_at hl 2 rfl) ?_
          refine cr_V (As := [.int a, .int b]) (rest := []) hx hb hml hown hu hE (c_kinOf l E A σ M a b) kX11_kinOf u905 (md_obj hM) rfl rfl (⟨hM, hI, hX⟩) ⟨Nat.le_of_ble_eq_true rfl, Nat.le_of_ble_eq_true rfl⟩ rfl hl.1 rfl (Nat.le_of_ble_eq_true rfl) ⟨Nat.le_of_ble_eq_true rfl, Nat.le_of_ble_eq_true rfl⟩ dX11_stands_45 ?_
          refine lv_istore (lv' := [(4, .int (m_kinOf σ a b)), (0, .ref (M 0)), (1, .int a), (2, .int b), (3, .int dy)]) hx hb dX11_stands_48 hl (by decide) rfl (fun ls hl => ?_)
          refine lv_iload hx hb dX11_stands_50 (lv_at hl 0 rfl) ?_
          refine lv_if_le (tgt := 81) hx hb dX11_stands_52 (by decide) (fun c11 => ?_) (fun c11 => ?_)
          · refine lv_aload_n hx hb dX11_stands_81 rfl (lv_at hl 1 rfl) ?_
            refine lv_iload_n hx hb dX11_stands_82 rfl (lv_at hl 2 rfl) ?_
            refine lv_iload_n hx hb dX11_stands_83 rfl (lv_at hl 4 rfl) ?_
            refine ct_V (As := [.int a, .int dy]) (rest := []) hx hb hml hown hu hE hZ hS (fun _ h => h) (fun q h => hA q (Nat.le_trans hS.1 h)) (c_lacks l E A σ M a dy) kX11_lacks u941 (md_obj hM) rfl rfl (⟨hM, hI, hX.1⟩) ⟨Nat.le_of_ble_eq_true rfl, Nat.le_of_ble_eq_true rfl⟩ rfl hl.1 rfl (Nat.le_of_ble_eq_true rfl) ⟨Nat.le_of_ble_eq_true rfl, Nat.le_of_ble_eq_true rfl⟩ dX11_stands_84 (fun v12 H1 locs1 hR hS hz hk => ?_)
            obtain ⟨rfl, hM⟩ := hR
            refine onB (fun b13 => ?_) (fun b13 => ?_)
            · refine lv_if_ne (tgt := 99) hx hb dX11_stands_87 (by decide) (fun _ => ?_) (fun c14 => absurd c14 (by decide))
              refine lv_iconst (v := 4) hx hb dX11_stands_99 (by decide) ?_
              refine lv_goto (tgt := 104) hx hb dX11_stands_100 (by decide) ?_
              exact ct_ri hx hb hr hlocks hS (⟨(by simp only [m_stands, decide_eq_true c1, decide_eq_true c2, b4, b8, decide_eq_false (Int32.not_lt.mpr c11), b13, Bool.not_true, Bool.not_false, Bool.and_true, Bool.true_and, Bool.and_false, Bool.false_and, Bool.or_true, Bool.true_or, Bool.or_false, Bool.false_or, Bool.and_self, Bool.or_self, eq_self, if_true, Bool.false_eq_true, if_false]), hM⟩) (Nat.le_of_ble_eq_true rfl) (Nat.le_of_ble_eq_true rfl) dX11_stands_104
            · refine lv_if_ne (tgt := 99) hx hb dX11_stands_87 (by decide) (fun c15 => absurd c15 (by decide)) (fun _ => ?_)
              refine lv_aload_n hx hb dX11_stands_90 rfl (lv_at hl 1 rfl) ?_
              refine lv_iload_n hx hb dX11_stands_91 rfl (lv_at hl 3 rfl) ?_
              refine lv_iload_n hx hb dX11_stands_92 rfl (lv_at hl 4 rfl) ?_
              refine ct_V (As := [.int b, .int dy]) (rest := []) hx hb hml hown hu hE hZ hS (fun _ h => h) (fun q h => hA q (Nat.le_trans hS.1 h)) (c_lacks l E A σ M b dy) kX11_lacks u941 (md_obj hM) rfl rfl (⟨hM, hI, hX.2⟩) ⟨Nat.le_of_ble_eq_true rfl, Nat.le_of_ble_eq_true rfl⟩ rfl hl.1 rfl (Nat.le_of_ble_eq_true rfl) ⟨Nat.le_of_ble_eq_true rfl, Nat.le_of_ble_eq_true rfl⟩ dX11_stands_93 (fun v16 H1 locs1 hR hS hz hk => ?_)
              obtain ⟨rfl, hM⟩ := hR
              refine onB (fun b17 => ?_) (fun b17 => ?_)
              · refine lv_if_eq (tgt := 103) hx hb dX11_stands_96 (by decide) (fun c18 => absurd c18 (by decide)) (fun _ => ?_)
                refine lv_iconst (v := 4) hx hb dX11_stands_99 (by decide) ?_
                refine lv_goto (tgt := 104) hx hb dX11_stands_100 (by decide) ?_
                exact ct_ri hx hb hr hlocks hS (⟨(by simp only [m_stands, decide_eq_true c1, decide_eq_true c2, b4, b8, decide_eq_false (Int32.not_lt.mpr c11), b13, b17, Bool.not_true, Bool.not_false, Bool.and_true, Bool.true_and, Bool.and_false, Bool.false_and, Bool.or_true, Bool.true_or, Bool.or_false, Bool.false_or, Bool.and_self, Bool.or_self, eq_self, if_true, Bool.false_eq_true, if_false]), hM⟩) (Nat.le_of_ble_eq_true rfl) (Nat.le_of_ble_eq_true rfl) dX11_stands_104
              · refine lv_if_eq (tgt := 103) hx hb dX11_stands_96 (by decide) (fun _ => ?_) (fun c19 => absurd (by decide) c19)
                refine lv_iconst (v := 0) hx hb dX11_stands_103 (by decide) ?_
                exact ct_ri hx hb hr hlocks hS (⟨(by simp only [m_stands, decide_eq_true c1, decide_eq_true c2, b4, b8, decide_eq_false (Int32.not_lt.mpr c11), b13, b17, Bool.not_true, Bool.not_false, Bool.and_true, Bool.true_and, Bool.and_false, Bool.false_and, Bool.or_true, Bool.true_or, Bool.or_false, Bool.false_or, Bool.and_self, Bool.or_self, eq_self, if_true, Bool.false_eq_true, if_false]), hM⟩) (Nat.le_of_ble_eq_true rfl) (Nat.le_of_ble_eq_true rfl) dX11_stands_104
          · refine lv_iload hx hb dX11_stands_55 (lv_at hl 0 rfl) ?_
            refine lv_aload_n hx hb dX11_stands_57 rfl (lv_at hl 1 rfl) ?_
            refine lv_iload_n hx hb dX11_stands_58 rfl (lv_at hl 2 rfl) ?_
            refine lv_iload_n hx hb dX11_stands_59 rfl (lv_at hl 4 rfl) ?_
            refine lv_iconst (v := 3) hx hb dX11_stands_60 (by decide) ?_
            refine ct_V (As := [.int a, .int dy, .int 3]) (rest := [.int (m_kinOf σ a b)]) hx hb hml hown hu hE hZ hS (fun _ h => h) (fun q h => hA q (Nat.le_trans hS.1 h)) (c_asks l E A σ M a dy 3) kX11_asks u933 (md_obj hM) rfl rfl (⟨hM, hI, hX.1, by decide⟩) ⟨Nat.le_of_ble_eq_true rfl, Nat.le_of_ble_eq_true rfl⟩ rfl hl.1 rfl (Nat.le_of_ble_eq_true rfl) ⟨Nat.le_of_ble_eq_true rfl, Nat.le_of_ble_eq_true rfl⟩ dX11_stands_61 (fun v20 H1 locs1 hR hS hz hk => ?_)
            obtain ⟨rfl, hM⟩ := hR
            refine lv_icmp_le (tgt := 79) hx hb dX11_stands_64 (by decide) (fun c21 => ?_) (fun c21 => ?_)
            · refine lv_iconst (v := 3) hx hb dX11_stands_79 (by decide) ?_
              exact ct_ri hx hb hr hlocks hS (⟨(by simp only [m_stands, decide_eq_true c1, decide_eq_true c2, b4, b8, decide_eq_true (Int32.not_le.mp c11), decide_eq_false (Int32.not_lt.mpr c21), Bool.not_true, Bool.not_false, Bool.and_true, Bool.true_and, Bool.and_false, Bool.false_and, Bool.or_true, Bool.true_or, Bool.or_false, Bool.false_or, Bool.and_self, Bool.or_self, eq_self, if_true, Bool.false_eq_true, if_false]), hM⟩) (Nat.le_of_ble_eq_true rfl) (Nat.le_of_ble_eq_true rfl) dX11_stands_80
            · refine lv_iload hx hb dX11_stands_67 (lv_at hl 0 rfl) ?_
              refine lv_aload_n hx hb dX11_stands_69 rfl (lv_at hl 1 rfl) ?_
              refine lv_iload_n hx hb dX11_stands_70 rfl (lv_at hl 3 rfl) ?_
              refine lv_iload_n hx hb dX11_stands_71 rfl (lv_at hl 4 rfl) ?_
              refine lv_iconst (v := 3) hx hb dX11_stands_72 (by decide) ?_
              refine ct_V (As := [.int b, .int dy, .int 3]) (rest := [.int (m_kinOf σ a b)]) hx hb hml hown hu hE hZ hS (fun _ h => h) (fun q h => hA q (Nat.le_trans hS.1 h)) (c_asks l E A σ M b dy 3) kX11_asks u933 (md_obj hM) rfl rfl (⟨hM, hI, hX.2, by decide⟩) ⟨Nat.le_of_ble_eq_true rfl, Nat.le_of_ble_eq_true rfl⟩ rfl hl.1 rfl (Nat.le_of_ble_eq_true rfl) ⟨Nat.le_of_ble_eq_true rfl, Nat.le_of_ble_eq_true rfl⟩ dX11_stands_73 (fun v22 H1 locs1 hR hS hz hk => ?_)
              obtain ⟨rfl, hM⟩ := hR
              refine lv_icmp_gt (tgt := 81) hx hb dX11_stands_76 (by decide) (fun c23 => ?_) (fun c23 => ?_)
              · refine lv_aload_n hx hb dX11_stands_81 rfl (lv_at hl 1 rfl) ?_
                refine lv_iload_n hx hb dX11_stands_82 rfl (lv_at hl 2 rfl) ?_
                refine lv_iload_n hx hb dX11_stands_83 rfl (lv_at hl 4 rfl) ?_
                refine ct_V (As := [.int a, .int dy]) (rest := []) hx hb hml hown hu hE hZ hS (fun _ h => h) (fun q h => hA q (Nat.le_trans hS.1 h)) (c_lacks l E A σ M a dy) kX11_lacks u941 (md_obj hM) rfl rfl (⟨hM, hI, hX.1⟩) ⟨Nat.le_of_ble_eq_true rfl, Nat.le_of_ble_eq_true rfl⟩ rfl hl.1 rfl (Nat.le_of_ble_eq_true rfl) ⟨Nat.le_of_ble_eq_true rfl, Nat.le_of_ble_eq_true rfl⟩ dX11_stands_84 (fun v24 H1 locs1 hR hS hz hk => ?_)
                obtain ⟨rfl, hM⟩ := hR
                refine onB (fun b25 => ?_) (fun b25 => ?_)
                · refine lv_if_ne (tgt := 99) hx hb dX11_stands_87 (by decide) (fun _ => ?_) (fun c26 => absurd c26 (by decide))
                  refine lv_iconst (v := 4) hx hb dX11_stands_99 (by decide) ?_
                  refine lv_goto (tgt := 104) hx hb dX11_stands_100 (by decide) ?_
                  exact ct_ri hx hb hr hlocks hS (⟨(by simp only [m_stands, decide_eq_true c1, decide_eq_true c2, b4, b8, decide_eq_true (Int32.not_le.mp c11), decide_eq_true (Int32.not_le.mp c21), decide_eq_true c23, b25, Bool.not_true, Bool.not_false, Bool.and_true, Bool.true_and, Bool.and_false, Bool.false_and, Bool.or_true, Bool.true_or, Bool.or_false, Bool.false_or, Bool.and_self, Bool.or_self, eq_self, if_true, Bool.false_eq_true, if_false]), hM⟩) (Nat.le_of_ble_eq_true rfl) (Nat.le_of_ble_eq_true rfl) dX11_stands_104
                · refine lv_if_ne (tgt := 99) hx hb dX11_stands_87 (by decide) (fun c27 => absurd c27 (by decide)) (fun _ => ?_)
                  refine lv_aload_n hx hb dX11_stands_90 rfl (lv_at hl 1 rfl) ?_
                  refine lv_iload_n hx hb dX11_stands_91 rfl (lv_at hl 3 rfl) ?_
                  refine lv_iload_n hx hb dX11_stands_92 rfl (lv_at hl 4 rfl) ?_
                  refine ct_V (As := [.int b, .int dy]) (rest := []) hx hb hml hown hu hE hZ hS (fun _ h => h) (fun q h => hA q (Nat.le_trans hS.1 h)) (c_lacks l E A σ M b dy) kX11_lacks u941 (md_obj hM) rfl rfl (⟨hM, hI, hX.2⟩) ⟨Nat.le_of_ble_eq_true rfl, Nat.le_of_ble_eq_true rfl⟩ rfl hl.1 rfl (Nat.le_of_ble_eq_true rfl) ⟨Nat.le_of_ble_eq_true rfl, Nat.le_of_ble_eq_true rfl⟩ dX11_stands_93 (fun v28 H1 locs1 hR hS hz hk => ?_)
                  obtain ⟨rfl, hM⟩ := hR
                  refine onB (fun b29 => ?_) (fun b29 => ?_)
                  · refine lv_if_eq (tgt := 103) hx hb dX11_stands_96 (by decide) (fun c30 => absurd c30 (by decide)) (fun _ => ?_)
                    refine lv_iconst (v := 4) hx hb dX11_stands_99 (by decide) ?_
                    refine lv_goto (tgt := 104) hx hb dX11_stands_100 (by decide) ?_
                    exact ct_ri hx hb hr hlocks hS (⟨(by simp only [m_stands, decide_eq_true c1, decide_eq_true c2, b4, b8, decide_eq_true (Int32.not_le.mp c11), decide_eq_true (Int32.not_le.mp c21), decide_eq_true c23, b25, b29, Bool.not_true, Bool.not_false, Bool.and_true, Bool.true_and, Bool.and_false, Bool.false_and, Bool.or_true, Bool.true_or, Bool.or_false, Bool.false_or, Bool.and_self, Bool.or_self, eq_self, if_true, Bool.false_eq_true, if_false]), hM⟩) (Nat.le_of_ble_eq_true rfl) (Nat.le_of_ble_eq_true rfl) dX11_stands_104
                  · refine lv_if_eq (tgt := 103) hx hb dX11_stands_96 (by decide) (fun _ => ?_) (fun c31 => absurd (by decide) c31)
                    refine lv_iconst (v := 0) hx hb dX11_stands_103 (by decide) ?_
                    exact ct_ri hx hb hr hlocks hS (⟨(by simp only [m_stands, decide_eq_true c1, decide_eq_true c2, b4, b8, decide_eq_true (Int32.not_le.mp c11), decide_eq_true (Int32.not_le.mp c21), decide_eq_true c23, b25, b29, Bool.not_true, Bool.not_false, Bool.and_true, Bool.true_and, Bool.and_false, Bool.false_and, Bool.or_true, Bool.true_or, Bool.or_false, Bool.false_or, Bool.and_self, Bool.or_self, eq_self, if_true, Bool.false_eq_true, if_false]), hM⟩) (Nat.le_of_ble_eq_true rfl) (Nat.le_of_ble_eq_true rfl) dX11_stands_104
              · refine lv_iconst (v := 3) hx hb dX11_stands_79 (by decide) ?_
                exact ct_ri hx hb hr hlocks hS (⟨(by simp only [m_stands, decide_eq_true c1, decide_eq_true c2, b4, b8, decide_eq_true (Int32.not_le.mp c11), decide_eq_true (Int32.not_le.mp c21), decide_eq_false c23, Bool.not_true, Bool.not_false, Bool.and_true, Bool.true_and, Bool.and_false, Bool.false_and, Bool.or_true, Bool.true_or, Bool.or_false, Bool.false_or, Bool.and_self, Bool.or_self, eq_self, if_true, Bool.false_eq_true, if_false]), hM⟩) (Nat.le_of_ble_eq_true rfl) (Nat.le_of_ble_eq_true rfl) dX11_stands_80
    · refine lv_iconst (v := 1) hx hb dX11_stands_20 (by decide) ?_
      exact ct_ri hx hb hr hlocks hS (⟨(by simp only [m_stands, decide_eq_true c1, decide_eq_false c2, Bool.not_true, Bool.not_false, Bool.and_true, Bool.true_and, Bool.and_false, Bool.false_and, Bool.or_true, Bool.true_or, Bool.or_false, Bool.false_or, Bool.and_self, Bool.or_self, eq_self, if_true, Bool.false_eq_true, if_false]), hM⟩) (Nat.le_of_ble_eq_true rfl) (Nat.le_of_ble_eq_true rfl) dX11_stands_21
set_option maxHeartbeats 1000000 in
set_option maxRecDepth 20000 in
theorem c_against (l : Launch) (E : EV) (A : Nat → Prop) (σ : St) (M : Nat → Nat) (a b dy : Int32) : Ct l E yX11_against cX11_against 4 (some .int) 5 118 0 0 A [.ref (M 0), .int a, .int b, .int dy] (fun H => Md E A σ M H ∧ InvM σ) (fun v H => v = some (.int (m_against σ a b dy)) ∧ Md E A σ M H) := by
  refine Ct.of (by decide +kernel) (Nat.le_of_ble_eq_true rfl) (fun pg ev s mi bel mth cd hx hb hr hml hown hu hlocks hnm hE hP hA hZ ls hl => ?_)
  have hl : lv_has ls 4 [(0, .ref (M 0)), (1, .int a), (2, .int b), (3, .int dy)] := hl
  have hS : va_S A s.heap s.heap [] := va_S.rf
  obtain ⟨hM, hI⟩ := hP
  refine lv_aload_n hx hb dX11_against_0 rfl (lv_at hl 0 rfl) ?_
  refine lv_iload_n hx hb dX11_against_1 rfl (lv_at hl 1 rfl) ?_
  refine cr_V (As := [.int a]) (rest := []) hx hb hml hown hu hE (c_isPerson l E A σ M a) kX11_isPerson u880 (md_obj hM) rfl rfl (⟨hM, hI⟩) ⟨Nat.le_of_ble_eq_true rfl, Nat.le_of_ble_eq_true rfl⟩ rfl hl.1 rfl (Nat.le_of_ble_eq_true rfl) ⟨Nat.le_of_ble_eq_true rfl, Nat.le_of_ble_eq_true rfl⟩ dX11_against_2 ?_
  refine onB (fun b1 => ?_) (fun b1 => ?_)
  · refine lv_if_eq (tgt := 42) hx hb dX11_against_5 (by decide) (fun c2 => absurd c2 (by decide)) (fun _ => ?_)
    refine lv_aload_n hx hb dX11_against_8 rfl (lv_at hl 0 rfl) ?_
    refine lv_iload_n hx hb dX11_against_9 rfl (lv_at hl 2 rfl) ?_
    refine cr_V (As := [.int b]) (rest := []) hx hb hml hown hu hE (c_isPerson l E A σ M b) kX11_isPerson u880 (md_obj hM) rfl rfl (⟨hM, hI⟩) ⟨Nat.le_of_ble_eq_true rfl, Nat.le_of_ble_eq_true rfl⟩ rfl hl.1 rfl (Nat.le_of_ble_eq_true rfl) ⟨Nat.le_of_ble_eq_true rfl, Nat.le_of_ble_eq_true rfl⟩ dX11_against_10 ?_
    refine onB (fun b3 => ?_) (fun b3 => ?_)
    · refine lv_if_eq (tgt := 42) hx hb dX11_against_13 (by decide) (fun c4 => absurd c4 (by decide)) (fun _ => ?_)
      refine lv_iload_n hx hb dX11_against_16 rfl (lv_at hl 1 rfl) ?_
      refine lv_iload_n hx hb dX11_against_17 rfl (lv_at hl 2 rfl) ?_
      refine lv_icmp_eq (tgt := 42) hx hb dX11_against_18 (by decide) (fun c5 => ?_) (fun c5 => ?_)
      · refine lv_iconst (v := (-1)) hx hb dX11_against_42 (by decide) ?_
        exact ct_ri hx hb hr hlocks hS (⟨(by simp only [m_against, b1, b3, decide_eq_true c5, Bool.not_true, Bool.not_false, Bool.and_true, Bool.true_and, Bool.and_false, Bool.false_and, Bool.or_true, Bool.true_or, Bool.or_false, Bool.false_or, Bool.and_self, Bool.or_self, eq_self, if_true, Bool.false_eq_true, if_false]), hM⟩) (Nat.le_of_ble_eq_true rfl) (Nat.le_of_ble_eq_true rfl) dX11_against_43
      · refine lv_iload_n hx hb dX11_against_21 rfl (lv_at hl 3 rfl) ?_
        refine lv_iconst (v := 0) hx hb dX11_against_22 (by decide) ?_
        refine lv_sipush (v := 20000) hx hb dX11_against_23 (by decide) ?_
        refine cr_S (As := [.int dy, .int 0, .int 20000]) (rest := []) hx hb hml hown hu hE (c_in l E dy 0 20000) kX11_in u873 (trivial) ⟨Nat.le_of_ble_eq_true rfl, Nat.le_of_ble_eq_true rfl⟩ rfl hl.1 rfl (Nat.le_of_ble_eq_true rfl) ⟨Nat.le_of_ble_eq_true rfl, Nat.le_of_ble_eq_true rfl⟩ dX11_against_26 ?_
        refine onB (fun b6 => ?_) (fun b6 => ?_)
        · refine lv_if_eq (tgt := 42) hx hb dX11_against_29 (by decide) (fun c7 => absurd c7 (by decide)) (fun _ => ?_)
          refine lv_aload_n hx hb dX11_against_32 rfl (lv_at hl 0 rfl) ?_
          refine lv_iload_n hx hb dX11_against_33 rfl (lv_at hl 1 rfl) ?_
          refine lv_iload_n hx hb dX11_against_34 rfl (lv_at hl 2 rfl) ?_
          refine lv_iload_n hx hb dX11_against_35 rfl (lv_at hl 3 rfl) ?_
          refine ct_V (As := [.int a, .int b, .int dy]) (rest := []) hx hb hml hown hu hE hZ hS (fun _ h => h) (fun q h => hA q (Nat.le_trans hS.1 h)) (c_stands l E A σ M a b dy) kX11_stands u925 (md_obj hM) rfl rfl (⟨hM, hI, ⟨isP_ok hI b1, isP_ok hI b3⟩⟩) ⟨Nat.le_of_ble_eq_true rfl, Nat.le_of_ble_eq_true rfl⟩ rfl hl.1 rfl (Nat.le_of_ble_eq_true rfl) ⟨Nat.le_of_ble_eq_true rfl, Nat.le_of_ble_eq_true rfl⟩ dX11_against_36 (fun v8 H1 locs1 hR hS hz hk => ?_)
          obtain ⟨rfl, hM⟩ := hR
          refine lv_goto (tgt := 43) hx hb dX11_against_39 (by decide) ?_
          exact ct_ri hx hb hr hlocks hS (⟨(by simp only [m_against, b1, b3, decide_eq_false c5, b6, Bool.not_true, Bool.not_false, Bool.and_true, Bool.true_and, Bool.and_false, Bool.false_and, Bool.or_true, Bool.true_or, Bool.or_false, Bool.false_or, Bool.and_self, Bool.or_self, eq_self, if_true, Bool.false_eq_true, if_false]), hM⟩) (Nat.le_of_ble_eq_true rfl) (Nat.le_of_ble_eq_true rfl) dX11_against_43
        · refine lv_if_eq (tgt := 42) hx hb dX11_against_29 (by decide) (fun _ => ?_) (fun c9 => absurd (by decide) c9)
          refine lv_iconst (v := (-1)) hx hb dX11_against_42 (by decide) ?_
          exact ct_ri hx hb hr hlocks hS (⟨(by simp only [m_against, b1, b3, decide_eq_false c5, b6, Bool.not_true, Bool.not_false, Bool.and_true, Bool.true_and, Bool.and_false, Bool.false_and, Bool.or_true, Bool.true_or, Bool.or_false, Bool.false_or, Bool.and_self, Bool.or_self, eq_self, if_true, Bool.false_eq_true, if_false]), hM⟩) (Nat.le_of_ble_eq_true rfl) (Nat.le_of_ble_eq_true rfl) dX11_against_43
    · refine lv_if_eq (tgt := 42) hx hb dX11_against_13 (by decide) (fun _ => ?_) (fun c10 => absurd (by decide) c10)
      refine lv_iconst (v := (-1)) hx hb dX11_against_42 (by decide) ?_
      exact ct_ri hx hb hr hlocks hS (⟨(by simp only [m_against, b1, b3, Bool.not_true, Bool.not_false, Bool.and_true, Bool.true_and, Bool.and_false, Bool.false_and, Bool.or_true, Bool.true_or, Bool.or_false, Bool.false_or, Bool.and_self, Bool.or_self, eq_self, if_true, Bool.false_eq_true, if_false]), hM⟩) (Nat.le_of_ble_eq_true rfl) (Nat.le_of_ble_eq_true rfl) dX11_against_43
  · refine lv_if_eq (tgt := 42) hx hb dX11_against_5 (by decide) (fun _ => ?_) (fun c11 => absurd (by decide) c11)
    refine lv_iconst (v := (-1)) hx hb dX11_against_42 (by decide) ?_
    exact ct_ri hx hb hr hlocks hS (⟨(by simp only [m_against, b1, Bool.not_true, Bool.not_false, Bool.and_true, Bool.true_and, Bool.and_false, Bool.false_and, Bool.or_true, Bool.true_or, Bool.or_false, Bool.false_or, Bool.and_self, Bool.or_self, eq_self, if_true, Bool.false_eq_true, if_false]), hM⟩) (Nat.le_of_ble_eq_true rfl) (Nat.le_of_ble_eq_true rfl) dX11_against_43
