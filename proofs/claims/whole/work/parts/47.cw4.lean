set_option maxHeartbeats 1000000 in
set_option maxRecDepth 20000 in
theorem x_fillA (l : Launch) (E : EV) (A : Nat → Prop) (H0 : Heap) (a n : Nat) (f0 : Nat → Int32) (x : Int32) : Ct l E yJ7_fill_53178 cJ7_fill_53178 4 none 0 0 0 0 A [.ref a, .int x] (fun H => H = H0 ∧ ia E a n f0 H ∧ A a ∧ n < 100000) (fun v H => v = none ∧ ia E a n (fun _ => x) H ∧ ∀ q : Nat, q ≠ a → H[q]? = H0[q]?) := by
  refine Ct.of (by decide +kernel) (Nat.le_of_ble_eq_true rfl) (fun pg ev s mi bel mth cd hx hb hr hml hown hu hlocks hnm hE hP hA hZ ls hl => ?_)
  have hl : lv_has ls 4 [(0, .ref a), (1, .int x)] := hl
  have hS : va_S A s.heap s.heap [] := va_S.rf
  obtain ⟨h0, ha, hAa, hn⟩ := hP
  have oc : ∀ q : Nat, q ≠ a → s.heap[q]? = H0[q]? := fun q _ => by rw [h0]
  refine lv_iconst (v := 0) hx hb dJ7_fill_53178_0 (by decide) ?_
  refine lv_istore_n (lv' := [(2, .int 0), (0, .ref a), (1, .int x)]) hx hb dJ7_fill_53178_1 rfl hl (by decide) rfl (fun ls hl => ?_)
  refine lv_aload_n hx hb dJ7_fill_53178_2 rfl (lv_at hl 1 rfl) ?_
  refine rd_leni hx hb hE ha dJ7_fill_53178_3 ?_
  refine lv_istore_n (lv' := [(3, .int (nI n)), (2, .int 0), (0, .ref a), (1, .int x)]) hx hb dJ7_fill_53178_4 rfl hl (by decide) rfl (fun ls hl => ?_)
  have lo : ∀ (f k : Nat) (g : Nat → Int32), (k + f = n) → (∀ i, i < k → g i = x) → ∀ (H1 : Heap) (locs1 : List Loc), ia E a n g H1 → (∀ q : Nat, q ≠ a → H1[q]? = H0[q]?) → va_S A s.heap H1 locs1 → ∀ (ls : Array Slot), lv_has ls 4 [(0, .ref a), (1, .int x), (2, .int (nI k)), (3, .int (nI n))] → W pg l ev { frames := 0, cells := 0, slots := 0, locals := 0 } s mi [.ref a, .int x].toArray bel mth cd H1 locs1 0 0 (QT bel s [.ref a, .int x].toArray 0 0 A (fun v H => v = none ∧ ia E a n (fun _ => x) H ∧ ∀ q : Nat, q ≠ a → H[q]? = H0[q]?)) (F0 mi 5 ls []) := by
    intro f
    induction f with
    | zero =>
      intro k g hk hg H1 locs1 ha oc hS ls hl
      refine lv_iload_n hx hb dJ7_fill_53178_5 rfl (lv_at hl 2 rfl) ?_
      refine lv_iload_n hx hb dJ7_fill_53178_6 rfl (lv_at hl 3 rfl) ?_
      refine lv_icmp_ge (tgt := 20) hx hb dJ7_fill_53178_7 (by decide) (fun c1 => ?_) (fun c1 => absurd (nI_le (by omega) (by omega)) c1)
      exact ct_rv hx hb hr hlocks hS (⟨rfl, ia_congr ha (fun i hi => hg i (by omega)), oc⟩) (Nat.le_of_ble_eq_true rfl) (Nat.le_of_ble_eq_true rfl) dJ7_fill_53178_20
    | succ f ih =>
      intro k g hk hg H1 locs1 ha oc hS ls hl
      refine lv_iload_n hx hb dJ7_fill_53178_5 rfl (lv_at hl 2 rfl) ?_
      refine lv_iload_n hx hb dJ7_fill_53178_6 rfl (lv_at hl 3 rfl) ?_
      refine lv_icmp_ge (tgt := 20) hx hb dJ7_fill_53178_7 (by decide) (fun c2 => absurd c2 (nI_ge (by omega) (by omega))) (fun c2 => ?_)
      refine lv_aload_n hx hb dJ7_fill_53178_10 rfl (lv_at hl 0 rfl) ?_
      refine lv_iload_n hx hb dJ7_fill_53178_11 rfl (lv_at hl 2 rfl) ?_
      refine lv_iload_n hx hb dJ7_fill_53178_12 rfl (lv_at hl 1 rfl) ?_
      refine wr_iast hx hb hE hS hAa ha (vp_in_nI (N := n) (by omega) (by omega)) dJ7_fill_53178_13 (fun H1 locs1 ha hz oq hS => ?_)
      have oc : ∀ q : Nat, q ≠ a → H1[q]? = H0[q]? := fun q hq => (oq q hq).trans (oc q hq)
      refine lv_iinc (v := nI (k + 1)) (lv' := [(2, .int (nI (k + 1))), (0, .ref a), (1, .int x), (3, .int (nI n))]) hx hb dJ7_fill_53178_14 hl (k := 2) rfl (nI_1 k) (by decide) rfl (fun ls hl => ?_)
      refine lv_goto (tgt := 5) hx hb dJ7_fill_53178_17 (by decide) ?_
      exact ih (k + 1) _ (by omega) (up_step hg (by omega)) _ _ ha oc hS _ (lv_sub hl [1, 2, 0, 3] rfl)
  exact lo n 0 f0 (by omega) (fun i hi => absurd hi (Nat.not_lt_zero i)) _ _ ha oc hS _ (lv_sub hl [2, 3, 1, 0] rfl)
set_option maxHeartbeats 1000000 in
set_option maxRecDepth 20000 in
theorem x_clear (l : Launch) (E : EV) (A : Nat → Prop) (σ : St) (L : Nat → Nat → Nat) : Ct l E yX2_clear cX2_clear 1 none 1 23 0 0 A [.ref (L 6 0)] (fun H => Cd E A σ L H ∧ InvM σ) (fun v H => v = none ∧ Cd E A σ L H ∧ plK E L pl0.1 pl0.2 H) := by
  refine Ct.of (by decide +kernel) (Nat.le_of_ble_eq_true rfl) (fun pg ev s mi bel mth cd hx hb hr hml hown hu hlocks hnm hE hP hA hZ ls hl => ?_)
  have hl : lv_has ls 1 [(0, .ref (L 6 0))] := hl
  have hS : va_S A s.heap s.heap [] := va_S.rf
  obtain ⟨hC, hI⟩ := hP
  obtain ⟨tf0, htf⟩ := cd_th hC
  obtain ⟨hf0, hhf⟩ := cd_hr hC
  have n78 : L 7 0 ≠ L 8 0 := fun z => absurd (cd_inj hC (cv_f (by omega)) (cv_f (by omega)) z).1 (by decide)
  refine lv_aload_n hx hb dX2_clear_0 rfl (lv_at hl 0 rfl) ?_
  refine rd_get (k := 0) (v := .ref (L 7 0)) hx hb hown hu hE ok3 (cd_pl hC) (by decide) u130 (fun _ h => h) rfl dX2_clear_1 ?_
  refine lv_iconst (v := 0) hx hb dX2_clear_4 (by decide) ?_
  refine ct_S (As := [.ref (L 7 0), .int 0]) (rest := []) hx hb hml hown hu hE hZ hS (fun _ h => h) (fun q h => hA q (Nat.le_trans hS.1 h)) (x_fillA l E A s.heap (L 7 0) 10 tf0 0) kJ7_fill_53178 u590 (⟨rfl, htf, cd_A hC (cv_f (by omega)), by decide⟩) ⟨Nat.le_of_ble_eq_true rfl, Nat.le_of_ble_eq_true rfl⟩ rfl hl.1 rfl (Nat.le_of_ble_eq_true rfl) ⟨Nat.le_of_ble_eq_true rfl, Nat.le_of_ble_eq_true rfl⟩ dX2_clear_5 (fun v1 H1 locs1 hR hS hz hk => ?_)
  obtain ⟨rfl, htf, oq⟩ := hR
  have hhf := hhf.kept (oq _ n78.symm)
  have hC := cw_pl hC (Or.inl ⟨rfl, rfl⟩) htf oq
  refine lv_aload_n hx hb dX2_clear_8 rfl (lv_at hl 0 rfl) ?_
  refine rd_get (k := 1) (v := .ref (L 8 0)) hx hb hown hu hE ok3 (cd_pl hC) (by decide) u131 (fun _ h => h) rfl dX2_clear_9 ?_
  refine lv_iconst (v := (-1)) hx hb dX2_clear_12 (by decide) ?_
  refine ct_S (As := [.ref (L 8 0), .int (-1)]) (rest := []) hx hb hml hown hu hE hZ hS (fun _ h => h) (fun q h => hA q (Nat.le_trans hS.1 h)) (x_fillA l E A H1 (L 8 0) 60 hf0 (-1)) kJ7_fill_53178 u590 (⟨rfl, hhf, cd_A hC (cv_f (by omega)), by decide⟩) ⟨Nat.le_of_ble_eq_true rfl, Nat.le_of_ble_eq_true rfl⟩ rfl hl.1 rfl (Nat.le_of_ble_eq_true rfl) ⟨Nat.le_of_ble_eq_true rfl, Nat.le_of_ble_eq_true rfl⟩ dX2_clear_13 (fun v2 H1 locs1 hR hS hz hk => ?_)
  obtain ⟨rfl, hhf, oq⟩ := hR
  have htf := htf.kept (oq _ n78)
  have hC := cw_pl hC (Or.inr ⟨rfl, rfl⟩) hhf oq
  exact ct_rv hx hb hr hlocks hS (⟨rfl, hC, htf, hhf⟩) (Nat.le_of_ble_eq_true rfl) (Nat.le_of_ble_eq_true rfl) dX2_clear_16
set_option maxHeartbeats 1000000 in
set_option maxRecDepth 20000 in
theorem x_take (l : Launch) (E : EV) (A : Nat → Prop) (σ : St) (L : Nat → Nat → Nat) (pl : Pl) (x : Int32) : Ct l E yX2_take cX2_take 4 none 1 23 0 0 A [.ref (L 6 0), .int x] (fun H => Cd E A σ L H ∧ InvM σ ∧ plK E L pl.1 pl.2 H) (fun v H => v = none ∧ Cd E A σ L H ∧ plK E L (c_take pl x).1 (c_take pl x).2 H) := by
  refine Ct.of (by decide +kernel) (Nat.le_of_ble_eq_true rfl) (fun pg ev s mi bel mth cd hx hb hr hml hown hu hlocks hnm hE hP hA hZ ls hl => ?_)
  have hl : lv_has ls 4 [(0, .ref (L 6 0)), (1, .int x)] := hl
  have hS : va_S A s.heap s.heap [] := va_S.rf
  obtain ⟨hC, hI, hPl⟩ := hP
  have n78 : L 7 0 ≠ L 8 0 := fun z => absurd (cd_inj hC (cv_f (by omega)) (cv_f (by omega)) z).1 (by decide)
  refine lv_iload_n hx hb dX2_take_0 rfl (lv_at hl 1 rfl) ?_
  refine cr_N (As := [.int x]) (rest := []) hx hb hml hown hu hE (x_hourOf l E x) kX10_hourOf (by decide +kernel) (trivial) ⟨Nat.le_of_ble_eq_true rfl, Nat.le_of_ble_eq_true rfl⟩ rfl hl.1 rfl (Nat.le_of_ble_eq_true rfl) ⟨Nat.le_of_ble_eq_true rfl, Nat.le_of_ble_eq_true rfl⟩ dX2_take_1 ?_
  refine lv_istore_n (lv' := [(2, .int (x / 100)), (0, .ref (L 6 0)), (1, .int x)]) hx hb dX2_take_4 rfl hl (by decide) rfl (fun ls hl => ?_)
  refine lv_aload_n hx hb dX2_take_5 rfl (lv_at hl 1 rfl) ?_
  refine lv_iload_n hx hb dX2_take_6 rfl (lv_at hl 0 rfl) ?_
  refine lv_iload_n hx hb dX2_take_7 rfl (lv_at hl 2 rfl) ?_
  refine cr_N (As := [.int x]) (rest := [.int (x / 100), .ref (L 6 0)]) hx hb hml hown hu hE (x_regOf l E x) kX10_registrarOf (by decide +kernel) (trivial) ⟨Nat.le_of_ble_eq_true rfl, Nat.le_of_ble_eq_true rfl⟩ rfl hl.1 rfl (Nat.le_of_ble_eq_true rfl) ⟨Nat.le_of_ble_eq_true rfl, Nat.le_of_ble_eq_true rfl⟩ dX2_take_8 ?_
  refine cr_V (As := [.int (x / 100), .int (rm x 10)]) (rest := []) hx hb hml hown hu hE (x_place l E A σ L (x / 100) (rm x 10)) kX2_placeOf u603 (cd_pl hC) rfl rfl (⟨hC, hI⟩) ⟨Nat.le_of_ble_eq_true rfl, Nat.le_of_ble_eq_true rfl⟩ rfl hl.1 rfl (Nat.le_of_ble_eq_true rfl) ⟨Nat.le_of_ble_eq_true rfl, Nat.le_of_ble_eq_true rfl⟩ dX2_take_11 ?_
  refine lv_istore_n (lv' := [(3, .int (c_place (x / 100) (rm x 10))), (2, .int (x / 100)), (0, .ref (L 6 0)), (1, .int x)]) hx hb dX2_take_14 rfl hl (by decide) rfl (fun ls hl => ?_)
  refine lv_iload_n hx hb dX2_take_15 rfl (lv_at hl 0 rfl) ?_
  refine lv_iconst (v := (-1)) hx hb dX2_take_16 (by decide) ?_
  refine lv_icmp_ne (tgt := 21) hx hb dX2_take_17 (by decide) (fun c1 => ?_) (fun c1 => ?_)
  · refine lv_aload_n hx hb dX2_take_21 rfl (lv_at hl 2 rfl) ?_
    refine rd_get (k := 0) (v := .ref (L 7 0)) hx hb hown hu hE ok3 (cd_pl hC) (by decide) u130 (fun _ h => h) rfl dX2_take_22 ?_
    refine lv_iload_n hx hb dX2_take_25 rfl (lv_at hl 1 rfl) ?_
    refine lv_bipush (v := 8) hx hb dX2_take_26 (by decide) ?_
    refine lv_isub hx hb dX2_take_28 ?_
    refine lv_dup2_11 hx hb dX2_take_29 rfl rfl ?_
    refine rd_iald hx hb hE (hPl.1) (pl_in c1) dX2_take_30 ?_
    refine lv_iconst (v := 1) hx hb dX2_take_31 (by decide) ?_
    refine lv_iload_n hx hb dX2_take_32 rfl (lv_at hl 3 rfl) ?_
    refine cr_N (As := [.int x]) (rest := [.int 1, .int (pl.1 ((x / 100) - 8).toNatClampNeg), .int ((x / 100) - 8), .ref (L 7 0)]) hx hb hml hown hu hE (x_hallOf l E x) kX10_hallOf (by decide +kernel) (trivial) ⟨Nat.le_of_ble_eq_true rfl, Nat.le_of_ble_eq_true rfl⟩ rfl hl.1 rfl (Nat.le_of_ble_eq_true rfl) ⟨Nat.le_of_ble_eq_true rfl, Nat.le_of_ble_eq_true rfl⟩ dX2_take_33 ?_
    refine lv_ishl hx hb dX2_take_36 ?_
    refine lv_ior hx hb dX2_take_37 ?_
    refine wr_iast hx hb hE hS (cd_A hC (cv_f (by omega))) (hPl.1) (pl_in c1) dX2_take_38 (fun H1 locs1 ho hz oq hS => ?_)
    have hC := cw_pl hC (Or.inl ⟨rfl, rfl⟩) ho oq
    have hPl := (⟨ho, hPl.2.kept (oq _ n78.symm)⟩ : plK E L _ _ H1)
    refine lv_aload_n hx hb dX2_take_39 rfl (lv_at hl 2 rfl) ?_
    refine rd_get (k := 1) (v := .ref (L 8 0)) hx hb hown hu hE ok3 (cd_pl hC) (by decide) u131 (fun _ h => h) rfl dX2_take_40 ?_
    refine lv_iload_n hx hb dX2_take_43 rfl (lv_at hl 0 rfl) ?_
    refine lv_iload_n hx hb dX2_take_44 rfl (lv_at hl 3 rfl) ?_
    refine cr_N (As := [.int x]) (rest := [.int (c_place (x / 100) (rm x 10)), .ref (L 8 0)]) hx hb hml hown hu hE (x_hallOf l E x) kX10_hallOf (by decide +kernel) (trivial) ⟨Nat.le_of_ble_eq_true rfl, Nat.le_of_ble_eq_true rfl⟩ rfl hl.1 rfl (Nat.le_of_ble_eq_true rfl) ⟨Nat.le_of_ble_eq_true rfl, Nat.le_of_ble_eq_true rfl⟩ dX2_take_45 ?_
    refine wr_iast hx hb hE hS (cd_A hC (cv_f (by omega))) (hPl.2) (place_in c1) dX2_take_48 (fun H1 locs1 ho hz oq hS => ?_)
    have hC := cw_pl hC (Or.inr ⟨rfl, rfl⟩) ho oq
    have hPl := (⟨hPl.1.kept (oq _ n78), ho⟩ : plK E L _ _ H1)
    exact ct_rv hx hb hr hlocks hS (by refine ⟨rfl, hC, ?_⟩; simp only [c_take, decide_eq_false c1, Bool.not_true, Bool.not_false, Bool.and_true, Bool.true_and, Bool.and_false, Bool.false_and, Bool.or_true, Bool.true_or, Bool.or_false, Bool.false_or, Bool.and_self, Bool.or_self, eq_self, if_true, Bool.false_eq_true, if_false]; exact hPl) (Nat.le_of_ble_eq_true rfl) (Nat.le_of_ble_eq_true rfl) dX2_take_49
  · exact ct_rv hx hb hr hlocks hS (by refine ⟨rfl, hC, ?_⟩; simp only [c_take, decide_eq_true c1, Bool.not_true, Bool.not_false, Bool.and_true, Bool.true_and, Bool.and_false, Bool.false_and, Bool.or_true, Bool.true_or, Bool.or_false, Bool.false_or, Bool.and_self, Bool.or_self, eq_self, if_true, Bool.false_eq_true, if_false]; exact hPl) (Nat.le_of_ble_eq_true rfl) (Nat.le_of_ble_eq_true rfl) dX2_take_20
