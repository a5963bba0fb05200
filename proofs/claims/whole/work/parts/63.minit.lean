theorem ky1 : ∀ t, mval t = true → t ≠ 0 → mkey t < 300 → mkey t < 0 ∨ t = 1 ∨ (100 ≤ t ∧ t < 100 + 60) := by intro t h1 h2 h3; have hm := mval_iff h1; unfold mkey at h3 ⊢; (by_cases c : t < 100); (· rw [if_pos c] at h3 ⊢; omega); (rw [if_neg c] at h3 ⊢; (by_cases c2 : t < 200); (· rw [if_pos c2] at h3 ⊢; omega); (rw [if_neg c2] at h3 ⊢; omega))
theorem ky3 : ∀ t, mval t = true → t ≠ 0 → mkey t < 301 → mkey t < 300 ∨ t = 3 := by intro t h1 h2 h3; have hm := mval_iff h1; unfold mkey at h3 ⊢; (by_cases c : t < 100); (· rw [if_pos c] at h3 ⊢; omega); (rw [if_neg c] at h3 ⊢; (by_cases c2 : t < 200); (· rw [if_pos c2] at h3 ⊢; omega); (rw [if_neg c2] at h3 ⊢; omega))
theorem ky4 : ∀ t, mval t = true → t ≠ 0 → mkey t < 401 → mkey t < 301 ∨ t = 4 := by intro t h1 h2 h3; have hm := mval_iff h1; unfold mkey at h3 ⊢; (by_cases c : t < 100); (· rw [if_pos c] at h3 ⊢; omega); (rw [if_neg c] at h3 ⊢; (by_cases c2 : t < 200); (· rw [if_pos c2] at h3 ⊢; omega); (rw [if_neg c2] at h3 ⊢; omega))
theorem ky5 : ∀ t, mval t = true → t ≠ 0 → mkey t < 501 → mkey t < 401 ∨ t = 5 := by intro t h1 h2 h3; have hm := mval_iff h1; unfold mkey at h3 ⊢; (by_cases c : t < 100); (· rw [if_pos c] at h3 ⊢; omega); (rw [if_neg c] at h3 ⊢; (by_cases c2 : t < 200); (· rw [if_pos c2] at h3 ⊢; omega); (rw [if_neg c2] at h3 ⊢; omega))
theorem ky6 : ∀ t, mval t = true → t ≠ 0 → mkey t < 601 → mkey t < 501 ∨ t = 6 := by intro t h1 h2 h3; have hm := mval_iff h1; unfold mkey at h3 ⊢; (by_cases c : t < 100); (· rw [if_pos c] at h3 ⊢; omega); (rw [if_neg c] at h3 ⊢; (by_cases c2 : t < 200); (· rw [if_pos c2] at h3 ⊢; omega); (rw [if_neg c2] at h3 ⊢; omega))
theorem ky7 : ∀ t, mval t = true → t ≠ 0 → mkey t < 701 → mkey t < 601 ∨ t = 7 := by intro t h1 h2 h3; have hm := mval_iff h1; unfold mkey at h3 ⊢; (by_cases c : t < 100); (· rw [if_pos c] at h3 ⊢; omega); (rw [if_neg c] at h3 ⊢; (by_cases c2 : t < 200); (· rw [if_pos c2] at h3 ⊢; omega); (rw [if_neg c2] at h3 ⊢; omega))
theorem ky8 : ∀ t, mval t = true → t ≠ 0 → mkey t < 801 → mkey t < 701 ∨ t = 8 := by intro t h1 h2 h3; have hm := mval_iff h1; unfold mkey at h3 ⊢; (by_cases c : t < 100); (· rw [if_pos c] at h3 ⊢; omega); (rw [if_neg c] at h3 ⊢; (by_cases c2 : t < 200); (· rw [if_pos c2] at h3 ⊢; omega); (rw [if_neg c2] at h3 ⊢; omega))
theorem ky9 : ∀ t, mval t = true → t ≠ 0 → mkey t < 901 → mkey t < 801 ∨ t = 9 := by intro t h1 h2 h3; have hm := mval_iff h1; unfold mkey at h3 ⊢; (by_cases c : t < 100); (· rw [if_pos c] at h3 ⊢; omega); (rw [if_neg c] at h3 ⊢; (by_cases c2 : t < 200); (· rw [if_pos c2] at h3 ⊢; omega); (rw [if_neg c2] at h3 ⊢; omega))
theorem ky10 : ∀ t, mval t = true → t ≠ 0 → mkey t < 1001 → mkey t < 901 ∨ t = 10 := by intro t h1 h2 h3; have hm := mval_iff h1; unfold mkey at h3 ⊢; (by_cases c : t < 100); (· rw [if_pos c] at h3 ⊢; omega); (rw [if_neg c] at h3 ⊢; (by_cases c2 : t < 200); (· rw [if_pos c2] at h3 ⊢; omega); (rw [if_neg c2] at h3 ⊢; omega))
theorem ky12 : ∀ t, mval t = true → t ≠ 0 → mkey t < 1201 → mkey t < 1001 ∨ t = 12 := by intro t h1 h2 h3; have hm := mval_iff h1; unfold mkey at h3 ⊢; (by_cases c : t < 100); (· rw [if_pos c] at h3 ⊢; omega); (rw [if_neg c] at h3 ⊢; (by_cases c2 : t < 200); (· rw [if_pos c2] at h3 ⊢; omega); (rw [if_neg c2] at h3 ⊢; omega))
theorem ky13 : ∀ t, mval t = true → t ≠ 0 → mkey t < 1301 → mkey t < 1201 ∨ t = 13 := by intro t h1 h2 h3; have hm := mval_iff h1; unfold mkey at h3 ⊢; (by_cases c : t < 100); (· rw [if_pos c] at h3 ⊢; omega); (rw [if_neg c] at h3 ⊢; (by_cases c2 : t < 200); (· rw [if_pos c2] at h3 ⊢; omega); (rw [if_neg c2] at h3 ⊢; omega))
theorem ky14 : ∀ t, mval t = true → t ≠ 0 → mkey t < 1401 → mkey t < 1301 ∨ t = 14 := by intro t h1 h2 h3; have hm := mval_iff h1; unfold mkey at h3 ⊢; (by_cases c : t < 100); (· rw [if_pos c] at h3 ⊢; omega); (rw [if_neg c] at h3 ⊢; (by_cases c2 : t < 200); (· rw [if_pos c2] at h3 ⊢; omega); (rw [if_neg c2] at h3 ⊢; omega))
theorem ky16 : ∀ t, mval t = true → t ≠ 0 → mkey t < 1601 → mkey t < 1401 ∨ t = 16 := by intro t h1 h2 h3; have hm := mval_iff h1; unfold mkey at h3 ⊢; (by_cases c : t < 100); (· rw [if_pos c] at h3 ⊢; omega); (rw [if_neg c] at h3 ⊢; (by_cases c2 : t < 200); (· rw [if_pos c2] at h3 ⊢; omega); (rw [if_neg c2] at h3 ⊢; omega))
theorem ky17 : ∀ t, mval t = true → t ≠ 0 → mkey t < 1701 → mkey t < 1601 ∨ t = 17 := by intro t h1 h2 h3; have hm := mval_iff h1; unfold mkey at h3 ⊢; (by_cases c : t < 100); (· rw [if_pos c] at h3 ⊢; omega); (rw [if_neg c] at h3 ⊢; (by_cases c2 : t < 200); (· rw [if_pos c2] at h3 ⊢; omega); (rw [if_neg c2] at h3 ⊢; omega))
theorem ky18 : ∀ t, mval t = true → t ≠ 0 → mkey t < 1801 → mkey t < 1701 ∨ t = 18 := by intro t h1 h2 h3; have hm := mval_iff h1; unfold mkey at h3 ⊢; (by_cases c : t < 100); (· rw [if_pos c] at h3 ⊢; omega); (rw [if_neg c] at h3 ⊢; (by_cases c2 : t < 200); (· rw [if_pos c2] at h3 ⊢; omega); (rw [if_neg c2] at h3 ⊢; omega))
theorem ky19 : ∀ t, mval t = true → t ≠ 0 → mkey t < 1901 → mkey t < 1801 ∨ t = 19 := by intro t h1 h2 h3; have hm := mval_iff h1; unfold mkey at h3 ⊢; (by_cases c : t < 100); (· rw [if_pos c] at h3 ⊢; omega); (rw [if_neg c] at h3 ⊢; (by_cases c2 : t < 200); (· rw [if_pos c2] at h3 ⊢; omega); (rw [if_neg c2] at h3 ⊢; omega))
theorem ky20 : ∀ t, mval t = true → t ≠ 0 → mkey t < 2001 → mkey t < 1901 ∨ t = 20 := by intro t h1 h2 h3; have hm := mval_iff h1; unfold mkey at h3 ⊢; (by_cases c : t < 100); (· rw [if_pos c] at h3 ⊢; omega); (rw [if_neg c] at h3 ⊢; (by_cases c2 : t < 200); (· rw [if_pos c2] at h3 ⊢; omega); (rw [if_neg c2] at h3 ⊢; omega))
theorem ky21 : ∀ t, mval t = true → t ≠ 0 → mkey t < 2101 → mkey t < 2001 ∨ t = 21 := by intro t h1 h2 h3; have hm := mval_iff h1; unfold mkey at h3 ⊢; (by_cases c : t < 100); (· rw [if_pos c] at h3 ⊢; omega); (rw [if_neg c] at h3 ⊢; (by_cases c2 : t < 200); (· rw [if_pos c2] at h3 ⊢; omega); (rw [if_neg c2] at h3 ⊢; omega))
theorem ky22 : ∀ t, mval t = true → t ≠ 0 → mkey t < 2201 → mkey t < 2101 ∨ t = 22 := by intro t h1 h2 h3; have hm := mval_iff h1; unfold mkey at h3 ⊢; (by_cases c : t < 100); (· rw [if_pos c] at h3 ⊢; omega); (rw [if_neg c] at h3 ⊢; (by_cases c2 : t < 200); (· rw [if_pos c2] at h3 ⊢; omega); (rw [if_neg c2] at h3 ⊢; omega))
theorem ky24 : ∀ t, mval t = true → t ≠ 0 → mkey t < 2401 → mkey t < 2201 ∨ t = 24 := by intro t h1 h2 h3; have hm := mval_iff h1; unfold mkey at h3 ⊢; (by_cases c : t < 100); (· rw [if_pos c] at h3 ⊢; omega); (rw [if_neg c] at h3 ⊢; (by_cases c2 : t < 200); (· rw [if_pos c2] at h3 ⊢; omega); (rw [if_neg c2] at h3 ⊢; omega))
theorem ky25 : ∀ t, mval t = true → t ≠ 0 → mkey t < 2501 → mkey t < 2401 ∨ t = 25 := by intro t h1 h2 h3; have hm := mval_iff h1; unfold mkey at h3 ⊢; (by_cases c : t < 100); (· rw [if_pos c] at h3 ⊢; omega); (rw [if_neg c] at h3 ⊢; (by_cases c2 : t < 200); (· rw [if_pos c2] at h3 ⊢; omega); (rw [if_neg c2] at h3 ⊢; omega))
theorem ky27 : ∀ t, mval t = true → t ≠ 0 → mkey t < 2701 → mkey t < 2501 ∨ t = 27 := by intro t h1 h2 h3; have hm := mval_iff h1; unfold mkey at h3 ⊢; (by_cases c : t < 100); (· rw [if_pos c] at h3 ⊢; omega); (rw [if_neg c] at h3 ⊢; (by_cases c2 : t < 200); (· rw [if_pos c2] at h3 ⊢; omega); (rw [if_neg c2] at h3 ⊢; omega))
theorem ky29 : ∀ t, mval t = true → t ≠ 0 → mkey t < 3000 → mkey t < 2701 ∨ t = 29 ∨ (200 ≤ t ∧ t < 200 + 60) := by intro t h1 h2 h3; have hm := mval_iff h1; unfold mkey at h3 ⊢; (by_cases c : t < 100); (· rw [if_pos c] at h3 ⊢; omega); (rw [if_neg c] at h3 ⊢; (by_cases c2 : t < 200); (· rw [if_pos c2] at h3 ⊢; omega); (rw [if_neg c2] at h3 ⊢; omega))
theorem ky31 : ∀ t, mval t = true → t ≠ 0 → mkey t < 3101 → mkey t < 3000 ∨ t = 31 := by intro t h1 h2 h3; have hm := mval_iff h1; unfold mkey at h3 ⊢; (by_cases c : t < 100); (· rw [if_pos c] at h3 ⊢; omega); (rw [if_neg c] at h3 ⊢; (by_cases c2 : t < 200); (· rw [if_pos c2] at h3 ⊢; omega); (rw [if_neg c2] at h3 ⊢; omega))
theorem ky32 : ∀ t, mval t = true → t ≠ 0 → mkey t < 3201 → mkey t < 3101 ∨ t = 32 := by intro t h1 h2 h3; have hm := mval_iff h1; unfold mkey at h3 ⊢; (by_cases c : t < 100); (· rw [if_pos c] at h3 ⊢; omega); (rw [if_neg c] at h3 ⊢; (by_cases c2 : t < 200); (· rw [if_pos c2] at h3 ⊢; omega); (rw [if_neg c2] at h3 ⊢; omega))
theorem ky33 : ∀ t, mval t = true → t ≠ 0 → mkey t < 3301 → mkey t < 3201 ∨ t = 33 := by intro t h1 h2 h3; have hm := mval_iff h1; unfold mkey at h3 ⊢; (by_cases c : t < 100); (· rw [if_pos c] at h3 ⊢; omega); (rw [if_neg c] at h3 ⊢; (by_cases c2 : t < 200); (· rw [if_pos c2] at h3 ⊢; omega); (rw [if_neg c2] at h3 ⊢; omega))
theorem ky34 : ∀ t, mval t = true → t ≠ 0 → mkey t < 4000 → mkey t < 3301 ∨ t = 34 := by intro t h1 h2 h3; have hm := mval_iff h1; unfold mkey at h3 ⊢; (by_cases c : t < 100); (· rw [if_pos c] at h3 ⊢; omega); (rw [if_neg c] at h3 ⊢; (by_cases c2 : t < 200); (· rw [if_pos c2] at h3 ⊢; omega); (rw [if_neg c2] at h3 ⊢; omega))
set_option maxHeartbeats 20000000 in
set_option maxRecDepth 20000 in
theorem i_Mod (l : Launch) (E : EV) (A : Nat → Prop) (H0 : Heap) (a : Nat) : CtX l E yX11_init cX11_init 1 none 1 20 160 26000 A [.ref a] (fun H => H = H0 ∧ ob E a 12 df12 H ∧ A a) (fun v H => v = none ∧ (∃ M : Nat → Nat, M 0 = a ∧ Md E A s0 M H) ∧ ∀ q : Nat, q < H0.size → q ≠ a → H[q]? = H0[q]?) := by
  refine CtX.of (by decide +kernel) (Nat.le_of_ble_eq_true rfl) (fun pg ev s mi bel mth cd hx hb hr hml hown hu hlocks hnm hE hO hP hA hZ ls hl => ?_)
  have hl : lv_has ls 1 [(0, .ref a)] := hl
  have hS : va_S A s.heap s.heap [] := va_S.rf
  obtain ⟨h0, ho, hAa⟩ := hP
  have oc : ∀ q : Nat, q < H0.size → q ≠ a → s.heap[q]? = H0[q]? := fun q _ _ => by rw [h0]
  have hQ : Pm E A a (fun _ => a) 0 s.heap := fun t _ _ h => absurd h (Nat.not_lt_zero _)
  refine lv_aload_n hx hb dX11_init_0 rfl (lv_at hl 0 rfl) ?_
  refine W.objInit hx hb hown (hu _ u754) (hu _ u29) (hu _ u30) rfl (by rw [hml]; exact hl.1) rfl dX11_init_1 (Nat.le_of_ble_eq_true rfl) (Nat.le_of_ble_eq_true rfl) ?_
  refine W.eq (g2 := F0 mi 4 ls []) rfl ?_
  refine lv_aload_n hx hb dX11_init_4 rfl (lv_at hl 0 rfl) ?_
  refine lv_bipush (v := 60) hx hb dX11_init_5 (by decide) ?_
  refine lv_bipush (v := 8) hx hb dX11_init_7 (by decide) ?_
  obtain ⟨q1, hq1⟩ : ∃ z : Nat, z = s.heap.size := ⟨_, rfl⟩
  have hAq1 : ∀ q, q1 ≤ q → A q := fun q hq => hA q (Nat.le_trans hS.1 (by rw [← hq1]; exact hq))
  have hsz := hS.1
  have hat1 := at_lt ho
  refine nw_mna (N := 60) (K := 8) hx hb hown hu hE u755 hO u41 hS (by decide) (by decide) rfl rfl (by decide) (by decide) (Nat.le_of_ble_eq_true rfl) (Nat.le_of_ble_eq_true rfl) dX11_init_9 (fun H1 hbq1 hrq1 hz oq hS => ?_)
  rw [← hq1] at hbq1 hz oq hat1 ⊢
  simp only [← hq1] at hbq1 hrq1
  have ho := ho.kept (oq _ hat1)
  have hQ := pm_rows (b' := 300) (t0 := 1) (rb := 100) hQ ky1 (by decide) hq1 hat1 hAq1 hbq1 hrq1 oq
  have hleq1 : H0.size ≤ q1 := by rw [hq1, ← h0]; exact hsz
  have oc : ∀ q : Nat, q < H0.size → q ≠ a → H1[q]? = H0[q]? := fun q h1 h2 => (oq q (Nat.lt_of_lt_of_le h1 hleq1)).trans (oc q h1 h2)
  refine wr_putF (k := 1) hx hb hown hu hE ok12 hS hAa ho (by decide) u758 rfl rfl hnm rfl rfl (Nat.le_of_ble_eq_true rfl) dX11_init_13 (fun H1 locs1 ho hz oq hS => ?_)
  have oc : ∀ q : Nat, q < H0.size → q ≠ a → H1[q]? = H0[q]? := fun q h1 h2 => (oq q h2).trans (oc q h1 h2)
  have hQ := pm_put hQ oq
  refine lv_aload_n hx hb dX11_init_16 rfl (lv_at hl 0 rfl) ?_
  refine lv_bipush (v := 8) hx hb dX11_init_17 (by decide) ?_
  obtain ⟨q3, hq3⟩ : ∃ z : Nat, z = H1.size := ⟨_, rfl⟩
  have hAq3 : A q3 := hA q3 (by rw [hq3]; exact hS.1)
  have hsz := hS.1
  have hat3 := at_lt ho
  refine nw_newi (N := 8) hx hb hu hE u41 hS (by decide) rfl (by decide) (Nat.le_of_ble_eq_true rfl) (Nat.le_of_ble_eq_true rfl) dX11_init_19 (fun H1 hbq3 hz oq hS => ?_)
  rw [← hq3] at hbq3 hz oq hat3 ⊢
  have ho := ho.kept (oq _ hat3)
  have hQ := pm_one (b' := 301) (t0 := 3) hQ ky3 (by decide) (by decide) (by decide) hq3 hat3 hAq3 hbq3 oq
  have hleq3 : H0.size ≤ q3 := by rw [hq3, ← h0]; exact hsz
  have oc : ∀ q : Nat, q < H0.size → q ≠ a → H1[q]? = H0[q]? := fun q h1 h2 => (oq q (Nat.lt_of_lt_of_le h1 hleq3)).trans (oc q h1 h2)
  refine wr_putF (k := 3) hx hb hown hu hE ok12 hS hAa ho (by decide) u760 rfl rfl hnm rfl rfl (Nat.le_of_ble_eq_true rfl) dX11_init_21 (fun H1 locs1 ho hz oq hS => ?_)
  have oc : ∀ q : Nat, q < H0.size → q ≠ a → H1[q]? = H0[q]? := fun q h1 h2 => (oq q h2).trans (oc q h1 h2)
  have hQ := pm_put hQ oq
  refine lv_aload_n hx hb dX11_init_24 rfl (lv_at hl 0 rfl) ?_
  refine lv_bipush (v := 40) hx hb dX11_init_25 (by decide) ?_
  obtain ⟨q4, hq4⟩ : ∃ z : Nat, z = H1.size := ⟨_, rfl⟩
  have hAq4 : A q4 := hA q4 (by rw [hq4]; exact hS.1)
  have hsz := hS.1
  have hat4 := at_lt ho
  refine nw_newi (N := 40) hx hb hu hE u41 hS (by decide) rfl (by decide) (Nat.le_of_ble_eq_true rfl) (Nat.le_of_ble_eq_true rfl) dX11_init_27 (fun H1 hbq4 hz oq hS => ?_)
  rw [← hq4] at hbq4 hz oq hat4 ⊢
  have ho := ho.kept (oq _ hat4)
  have hQ := pm_one (b' := 401) (t0 := 4) hQ ky4 (by decide) (by decide) (by decide) hq4 hat4 hAq4 hbq4 oq
  have hleq4 : H0.size ≤ q4 := by rw [hq4, ← h0]; exact hsz
  have oc : ∀ q : Nat, q < H0.size → q ≠ a → H1[q]? = H0[q]? := fun q h1 h2 => (oq q (Nat.lt_of_lt_of_le h1 hleq4)).trans (oc q h1 h2)
  refine wr_putF (k := 4) hx hb hown hu hE ok12 hS hAa ho (by decide) u761 rfl rfl hnm rfl rfl (Nat.le_of_ble_eq_true rfl) dX11_init_29 (fun H1 locs1 ho hz oq hS => ?_)
  have oc : ∀ q : Nat, q < H0.size → q ≠ a → H1[q]? = H0[q]? := fun q h1 h2 => (oq q h2).trans (oc q h1 h2)
  have hQ := pm_put hQ oq
  refine lv_aload_n hx hb dX11_init_32 rfl (lv_at hl 0 rfl) ?_
  refine lv_bipush (v := 40) hx hb dX11_init_33 (by decide) ?_
  obtain ⟨q5, hq5⟩ : ∃ z : Nat, z = H1.size := ⟨_, rfl⟩
  have hAq5 : A q5 := hA q5 (by rw [hq5]; exact hS.1)
  have hsz := hS.1
  have hat5 := at_lt ho
  refine nw_newi (N := 40) hx hb hu hE u41 hS (by decide) rfl (by decide) (Nat.le_of_ble_eq_true rfl) (Nat.le_of_ble_eq_true rfl) dX11_init_35 (fun H1 hbq5 hz oq hS => ?_)
  rw [← hq5] at hbq5 hz oq hat5 ⊢
  have ho := ho.kept (oq _ hat5)
  have hQ := pm_one (b' := 501) (t0 := 5) hQ ky5 (by decide) (by decide) (by decide) hq5 hat5 hAq5 hbq5 oq
  have hleq5 : H0.size ≤ q5 := by rw [hq5, ← h0]; exact hsz
  have oc : ∀ q : Nat, q < H0.size → q ≠ a → H1[q]? = H0[q]? := fun q h1 h2 => (oq q (Nat.lt_of_lt_of_le h1 hleq5)).trans (oc q h1 h2)
  refine wr_putF (k := 5) hx hb hown hu hE ok12 hS hAa ho (by decide) u762 rfl rfl hnm rfl rfl (Nat.le_of_ble_eq_true rfl) dX11_init_37 (fun H1 locs1 ho hz oq hS => ?_)
  have oc : ∀ q : Nat, q < H0.size → q ≠ a → H1[q]? = H0[q]? := fun q h1 h2 => (oq q h2).trans (oc q h1 h2)
  have hQ := pm_put hQ oq
  refine lv_aload_n hx hb dX11_init_40 rfl (lv_at hl 0 rfl) ?_
  refine lv_bipush (v := 40) hx hb dX11_init_41 (by decide) ?_
  obtain ⟨q6, hq6⟩ : ∃ z : Nat, z = H1.size := ⟨_, rfl⟩
  have hAq6 : A q6 := hA q6 (by rw [hq6]; exact hS.1)
  have hsz := hS.1
  have hat6 := at_lt ho
  refine nw_newi (N := 40) hx hb hu hE u41 hS (by decide) rfl (by decide) (Nat.le_of_ble_eq_true rfl) (Nat.le_of_ble_eq_true rfl) dX11_init_43 (fun H1 hbq6 hz oq hS => ?_)
  rw [← hq6] at hbq6 hz oq hat6 ⊢
  have ho := ho.kept (oq _ hat6)
  have hQ := pm_one (b' := 601) (t0 := 6) hQ ky6 (by decide) (by decide) (by decide) hq6 hat6 hAq6 hbq6 oq
  have hleq6 : H0.size ≤ q6 := by rw [hq6, ← h0]; exact hsz
  have oc : ∀ q : Nat, q < H0.size → q ≠ a → H1[q]? = H0[q]? := fun q h1 h2 => (oq q (Nat.lt_of_lt_of_le h1 hleq6)).trans (oc q h1 h2)
  refine wr_putF (k := 6) hx hb hown hu hE ok12 hS hAa ho (by decide) u763 rfl rfl hnm rfl rfl (Nat.le_of_ble_eq_true rfl) dX11_init_45 (fun H1 locs1 ho hz oq hS => ?_)
  have oc : ∀ q : Nat, q < H0.size → q ≠ a → H1[q]? = H0[q]? := fun q h1 h2 => (oq q h2).trans (oc q h1 h2)
  have hQ := pm_put hQ oq
  refine lv_aload_n hx hb dX11_init_48 rfl (lv_at hl 0 rfl) ?_
  refine lv_bipush (v := 40) hx hb dX11_init_49 (by decide) ?_
  obtain ⟨q7, hq7⟩ : ∃ z : Nat, z = H1.size := ⟨_, rfl⟩
  have hAq7 : A q7 := hA q7 (by rw [hq7]; exact hS.1)
  have hsz := hS.1
  have hat7 := at_lt ho
  refine nw_newi (N := 40) hx hb hu hE u41 hS (by decide) rfl (by decide) (Nat.le_of_ble_eq_true rfl) (Nat.le_of_ble_eq_true rfl) dX11_init_51 (fun H1 hbq7 hz oq hS => ?_)
  rw [← hq7] at hbq7 hz oq hat7 ⊢
  have ho := ho.kept (oq _ hat7)
  have hQ := pm_one (b' := 701) (t0 := 7) hQ ky7 (by decide) (by decide) (by decide) hq7 hat7 hAq7 hbq7 oq
  have hleq7 : H0.size ≤ q7 := by rw [hq7, ← h0]; exact hsz
  have oc : ∀ q : Nat, q < H0.size → q ≠ a → H1[q]? = H0[q]? := fun q h1 h2 => (oq q (Nat.lt_of_lt_of_le h1 hleq7)).trans (oc q h1 h2)
  refine wr_putF (k := 7) hx hb hown hu hE ok12 hS hAa ho (by decide) u764 rfl rfl hnm rfl rfl (Nat.le_of_ble_eq_true rfl) dX11_init_53 (fun H1 locs1 ho hz oq hS => ?_)
  have oc : ∀ q : Nat, q < H0.size → q ≠ a → H1[q]? = H0[q]? := fun q h1 h2 => (oq q h2).trans (oc q h1 h2)
  have hQ := pm_put hQ oq
  refine lv_aload_n hx hb dX11_init_56 rfl (lv_at hl 0 rfl) ?_
  refine lv_bipush (v := 40) hx hb dX11_init_57 (by decide) ?_
  obtain ⟨q8, hq8⟩ : ∃ z : Nat, z = H1.size := ⟨_, rfl⟩
  have hAq8 : A q8 := hA q8 (by rw [hq8]; exact hS.1)
  have hsz := hS.1
  have hat8 := at_lt ho
  refine nw_newi (N := 40) hx hb hu hE u41 hS (by decide) rfl (by decide) (Nat.le_of_ble_eq_true rfl) (Nat.le_of_ble_eq_true rfl) dX11_init_59 (fun H1 hbq8 hz oq hS => ?_)
  rw [← hq8] at hbq8 hz oq hat8 ⊢
  have ho := ho.kept (oq _ hat8)
  have hQ := pm_one (b' := 801) (t0 := 8) hQ ky8 (by decide) (by decide) (by decide) hq8 hat8 hAq8 hbq8 oq
  have hleq8 : H0.size ≤ q8 := by rw [hq8, ← h0]; exact hsz
  have oc : ∀ q : Nat, q < H0.size → q ≠ a → H1[q]? = H0[q]? := fun q h1 h2 => (oq q (Nat.lt_of_lt_of_le h1 hleq8)).trans (oc q h1 h2)
  refine wr_putF (k := 8) hx hb hown hu hE ok12 hS hAa ho (by decide) u765 rfl rfl hnm rfl rfl (Nat.le_of_ble_eq_true rfl) dX11_init_61 (fun H1 locs1 ho hz oq hS => ?_)
  have oc : ∀ q : Nat, q < H0.size → q ≠ a → H1[q]? = H0[q]? := fun q h1 h2 => (oq q h2).trans (oc q h1 h2)
  have hQ := pm_put hQ oq
  refine lv_aload_n hx hb dX11_init_64 rfl (lv_at hl 0 rfl) ?_
  refine lv_bipush (v := 40) hx hb dX11_init_65 (by decide) ?_
  obtain ⟨q9, hq9⟩ : ∃ z : Nat, z = H1.size := ⟨_, rfl⟩
  have hAq9 : A q9 := hA q9 (by rw [hq9]; exact hS.1)
  have hsz := hS.1
  have hat9 := at_lt ho
  refine nw_newi (N := 40) hx hb hu hE u41 hS (by decide) rfl (by decide) (Nat.le_of_ble_eq_true rfl) (Nat.le_of_ble_eq_true rfl) dX11_init_67 (fun H1 hbq9 hz oq hS => ?_)
  rw [← hq9] at hbq9 hz oq hat9 ⊢
  have ho := ho.kept (oq _ hat9)
  have hQ := pm_one (b' := 901) (t0 := 9) hQ ky9 (by decide) (by decide) (by decide) hq9 hat9 hAq9 hbq9 oq
  have hleq9 : H0.size ≤ q9 := by rw [hq9, ← h0]; exact hsz
  have oc : ∀ q : Nat, q < H0.size → q ≠ a → H1[q]? = H0[q]? := fun q h1 h2 => (oq q (Nat.lt_of_lt_of_le h1 hleq9)).trans (oc q h1 h2)
  refine wr_putF (k := 9) hx hb hown hu hE ok12 hS hAa ho (by decide) u766 rfl rfl hnm rfl rfl (Nat.le_of_ble_eq_true rfl) dX11_init_69 (fun H1 locs1 ho hz oq hS => ?_)
  have oc : ∀ q : Nat, q < H0.size → q ≠ a → H1[q]? = H0[q]? := fun q h1 h2 => (oq q h2).trans (oc q h1 h2)
  have hQ := pm_put hQ oq
  refine lv_aload_n hx hb dX11_init_72 rfl (lv_at hl 0 rfl) ?_
  refine lv_bipush (v := 40) hx hb dX11_init_73 (by decide) ?_
  obtain ⟨q10, hq10⟩ : ∃ z : Nat, z = H1.size := ⟨_, rfl⟩
  have hAq10 : A q10 := hA q10 (by rw [hq10]; exact hS.1)
  have hsz := hS.1
  have hat10 := at_lt ho
  refine nw_newi (N := 40) hx hb hu hE u41 hS (by decide) rfl (by decide) (Nat.le_of_ble_eq_true rfl) (Nat.le_of_ble_eq_true rfl) dX11_init_75 (fun H1 hbq10 hz oq hS => ?_)
  rw [← hq10] at hbq10 hz oq hat10 ⊢
  have ho := ho.kept (oq _ hat10)
  have hQ := pm_one (b' := 1001) (t0 := 10) hQ ky10 (by decide) (by decide) (by decide) hq10 hat10 hAq10 hbq10 oq
  have hleq10 : H0.size ≤ q10 := by rw [hq10, ← h0]; exact hsz
  have oc : ∀ q : Nat, q < H0.size → q ≠ a → H1[q]? = H0[q]? := fun q h1 h2 => (oq q (Nat.lt_of_lt_of_le h1 hleq10)).trans (oc q h1 h2)
  refine wr_putF (k := 10) hx hb hown hu hE ok12 hS hAa ho (by decide) u767 rfl rfl hnm rfl rfl (Nat.le_of_ble_eq_true rfl) dX11_init_77 (fun H1 locs1 ho hz oq hS => ?_)
  have oc : ∀ q : Nat, q < H0.size → q ≠ a → H1[q]? = H0[q]? := fun q h1 h2 => (oq q h2).trans (oc q h1 h2)
  have hQ := pm_put hQ oq
  refine lv_aload_n hx hb dX11_init_80 rfl (lv_at hl 0 rfl) ?_
  refine lv_sipush (v := 200) hx hb dX11_init_81 (by decide) ?_
  obtain ⟨q12, hq12⟩ : ∃ z : Nat, z = H1.size := ⟨_, rfl⟩
  have hAq12 : A q12 := hA q12 (by rw [hq12]; exact hS.1)
  have hsz := hS.1
  have hat12 := at_lt ho
  refine nw_newi (N := 200) hx hb hu hE u41 hS (by decide) rfl (by decide) (Nat.le_of_ble_eq_true rfl) (Nat.le_of_ble_eq_true rfl) dX11_init_84 (fun H1 hbq12 hz oq hS => ?_)
  rw [← hq12] at hbq12 hz oq hat12 ⊢
  have ho := ho.kept (oq _ hat12)
  have hQ := pm_one (b' := 1201) (t0 := 12) hQ ky12 (by decide) (by decide) (by decide) hq12 hat12 hAq12 hbq12 oq
  have hleq12 : H0.size ≤ q12 := by rw [hq12, ← h0]; exact hsz
  have oc : ∀ q : Nat, q < H0.size → q ≠ a → H1[q]? = H0[q]? := fun q h1 h2 => (oq q (Nat.lt_of_lt_of_le h1 hleq12)).trans (oc q h1 h2)
  refine wr_putF (k := 12) hx hb hown hu hE ok12 hS hAa ho (by decide) u769 rfl rfl hnm rfl rfl (Nat.le_of_ble_eq_true rfl) dX11_init_86 (fun H1 locs1 ho hz oq hS => ?_)
  have oc : ∀ q : Nat, q < H0.size → q ≠ a → H1[q]? = H0[q]? := fun q h1 h2 => (oq q h2).trans (oc q h1 h2)
  have hQ := pm_put hQ oq
  refine lv_aload_n hx hb dX11_init_89 rfl (lv_at hl 0 rfl) ?_
  refine lv_sipush (v := 200) hx hb dX11_init_90 (by decide) ?_
  obtain ⟨q13, hq13⟩ : ∃ z : Nat, z = H1.size := ⟨_, rfl⟩
  have hAq13 : A q13 := hA q13 (by rw [hq13]; exact hS.1)
  have hsz := hS.1
  have hat13 := at_lt ho
  refine nw_newi (N := 200) hx hb hu hE u41 hS (by decide) rfl (by decide) (Nat.le_of_ble_eq_true rfl) (Nat.le_of_ble_eq_true rfl) dX11_init_93 (fun H1 hbq13 hz oq hS => ?_)
  rw [← hq13] at hbq13 hz oq hat13 ⊢
  have ho := ho.kept (oq _ hat13)
  have hQ := pm_one (b' := 1301) (t0 := 13) hQ ky13 (by decide) (by decide) (by decide) hq13 hat13 hAq13 hbq13 oq
  have hleq13 : H0.size ≤ q13 := by rw [hq13, ← h0]; exact hsz
  have oc : ∀ q : Nat, q < H0.size → q ≠ a → H1[q]? = H0[q]? := fun q h1 h2 => (oq q (Nat.lt_of_lt_of_le h1 hleq13)).trans (oc q h1 h2)
  refine wr_putF (k := 13) hx hb hown hu hE ok12 hS hAa ho (by decide) u770 rfl rfl hnm rfl rfl (Nat.le_of_ble_eq_true rfl) dX11_init_95 (fun H1 locs1 ho hz oq hS => ?_)
  have oc : ∀ q : Nat, q < H0.size → q ≠ a → H1[q]? = H0[q]? := fun q h1 h2 => (oq q h2).trans (oc q h1 h2)
  have hQ := pm_put hQ oq
  refine lv_aload_n hx hb dX11_init_98 rfl (lv_at hl 0 rfl) ?_
  refine lv_sipush (v := 200) hx hb dX11_init_99 (by decide) ?_
  obtain ⟨q14, hq14⟩ : ∃ z : Nat, z = H1.size := ⟨_, rfl⟩
  have hAq14 : A q14 := hA q14 (by rw [hq14]; exact hS.1)
  have hsz := hS.1
  have hat14 := at_lt ho
  refine nw_newi (N := 200) hx hb hu hE u41 hS (by decide) rfl (by decide) (Nat.le_of_ble_eq_true rfl) (Nat.le_of_ble_eq_true rfl) dX11_init_102 (fun H1 hbq14 hz oq hS => ?_)
  rw [← hq14] at hbq14 hz oq hat14 ⊢
  have ho := ho.kept (oq _ hat14)
  have hQ := pm_one (b' := 1401) (t0 := 14) hQ ky14 (by decide) (by decide) (by decide) hq14 hat14 hAq14 hbq14 oq
  have hleq14 : H0.size ≤ q14 := by rw [hq14, ← h0]; exact hsz
  have oc : ∀ q : Nat, q < H0.size → q ≠ a → H1[q]? = H0[q]? := fun q h1 h2 => (oq q (Nat.lt_of_lt_of_le h1 hleq14)).trans (oc q h1 h2)
  refine wr_putF (k := 14) hx hb hown hu hE ok12 hS hAa ho (by decide) u771 rfl rfl hnm rfl rfl (Nat.le_of_ble_eq_true rfl) dX11_init_104 (fun H1 locs1 ho hz oq hS => ?_)
  have oc : ∀ q : Nat, q < H0.size → q ≠ a → H1[q]? = H0[q]? := fun q h1 h2 => (oq q h2).trans (oc q h1 h2)
  have hQ := pm_put hQ oq
  refine lv_aload_n hx hb dX11_init_107 rfl (lv_at hl 0 rfl) ?_
  refine lv_sipush (v := 20001) hx hb dX11_init_108 (by decide) ?_
  obtain ⟨q16, hq16⟩ : ∃ z : Nat, z = H1.size := ⟨_, rfl⟩
  have hAq16 : A q16 := hA q16 (by rw [hq16]; exact hS.1)
  have hsz := hS.1
  have hat16 := at_lt ho
  refine nw_newz (N := 20001) hx hb hu hE u866 hS (by decide) rfl (by decide) (Nat.le_of_ble_eq_true rfl) (Nat.le_of_ble_eq_true rfl) dX11_init_111 (fun H1 hbq16 hz oq hS => ?_)
  rw [← hq16] at hbq16 hz oq hat16 ⊢
  have ho := ho.kept (oq _ hat16)
  have hQ := pm_one (b' := 1601) (t0 := 16) hQ ky16 (by decide) (by decide) (by decide) hq16 hat16 hAq16 hbq16 oq
  have hleq16 : H0.size ≤ q16 := by rw [hq16, ← h0]; exact hsz
  have oc : ∀ q : Nat, q < H0.size → q ≠ a → H1[q]? = H0[q]? := fun q h1 h2 => (oq q (Nat.lt_of_lt_of_le h1 hleq16)).trans (oc q h1 h2)
  refine wr_putF (k := 16) hx hb hown hu hE ok12 hS hAa ho (by decide) u773 rfl rfl hnm rfl rfl (Nat.le_of_ble_eq_true rfl) dX11_init_113 (fun H1 locs1 ho hz oq hS => ?_)
  have oc : ∀ q : Nat, q < H0.size → q ≠ a → H1[q]? = H0[q]? := fun q h1 h2 => (oq q h2).trans (oc q h1 h2)
  have hQ := pm_put hQ oq
  refine lv_aload_n hx hb dX11_init_116 rfl (lv_at hl 0 rfl) ?_
  refine lv_bipush (v := 60) hx hb dX11_init_117 (by decide) ?_
  obtain ⟨q17, hq17⟩ : ∃ z : Nat, z = H1.size := ⟨_, rfl⟩
  have hAq17 : A q17 := hA q17 (by rw [hq17]; exact hS.1)
  have hsz := hS.1
  have hat17 := at_lt ho
  refine nw_newi (N := 60) hx hb hu hE u41 hS (by decide) rfl (by decide) (Nat.le_of_ble_eq_true rfl) (Nat.le_of_ble_eq_true rfl) dX11_init_119 (fun H1 hbq17 hz oq hS => ?_)
  rw [← hq17] at hbq17 hz oq hat17 ⊢
  have ho := ho.kept (oq _ hat17)
  have hQ := pm_one (b' := 1701) (t0 := 17) hQ ky17 (by decide) (by decide) (by decide) hq17 hat17 hAq17 hbq17 oq
  have hleq17 : H0.size ≤ q17 := by rw [hq17, ← h0]; exact hsz
  have oc : ∀ q : Nat, q < H0.size → q ≠ a → H1[q]? = H0[q]? := fun q h1 h2 => (oq q (Nat.lt_of_lt_of_le h1 hleq17)).trans (oc q h1 h2)
  refine wr_putF (k := 17) hx hb hown hu hE ok12 hS hAa ho (by decide) u774 rfl rfl hnm rfl rfl (Nat.le_of_ble_eq_true rfl) dX11_init_121 (fun H1 locs1 ho hz oq hS => ?_)
  have oc : ∀ q : Nat, q < H0.size → q ≠ a → H1[q]? = H0[q]? := fun q h1 h2 => (oq q h2).trans (oc q h1 h2)
  have hQ := pm_put hQ oq
  refine lv_aload_n hx hb dX11_init_124 rfl (lv_at hl 0 rfl) ?_
  refine lv_bipush (v := 60) hx hb dX11_init_125 (by decide) ?_
  obtain ⟨q18, hq18⟩ : ∃ z : Nat, z = H1.size := ⟨_, rfl⟩
  have hAq18 : A q18 := hA q18 (by rw [hq18]; exact hS.1)
  have hsz := hS.1
  have hat18 := at_lt ho
  refine nw_newi (N := 60) hx hb hu hE u41 hS (by decide) rfl (by decide) (Nat.le_of_ble_eq_true rfl) (Nat.le_of_ble_eq_true rfl) dX11_init_127 (fun H1 hbq18 hz oq hS => ?_)
  rw [← hq18] at hbq18 hz oq hat18 ⊢
  have ho := ho.kept (oq _ hat18)
  have hQ := pm_one (b' := 1801) (t0 := 18) hQ ky18 (by decide) (by decide) (by decide) hq18 hat18 hAq18 hbq18 oq
  have hleq18 : H0.size ≤ q18 := by rw [hq18, ← h0]; exact hsz
  have oc : ∀ q : Nat, q < H0.size → q ≠ a → H1[q]? = H0[q]? := fun q h1 h2 => (oq q (Nat.lt_of_lt_of_le h1 hleq18)).trans (oc q h1 h2)
  refine wr_putF (k := 18) hx hb hown hu hE ok12 hS hAa ho (by decide) u775 rfl rfl hnm rfl rfl (Nat.le_of_ble_eq_true rfl) dX11_init_129 (fun H1 locs1 ho hz oq hS => ?_)
  have oc : ∀ q : Nat, q < H0.size → q ≠ a → H1[q]? = H0[q]? := fun q h1 h2 => (oq q h2).trans (oc q h1 h2)
  have hQ := pm_put hQ oq
  refine lv_aload_n hx hb dX11_init_132 rfl (lv_at hl 0 rfl) ?_
  refine lv_bipush (v := 60) hx hb dX11_init_133 (by decide) ?_
  obtain ⟨q19, hq19⟩ : ∃ z : Nat, z = H1.size := ⟨_, rfl⟩
  have hAq19 : A q19 := hA q19 (by rw [hq19]; exact hS.1)
  have hsz := hS.1
  have hat19 := at_lt ho
  refine nw_newi (N := 60) hx hb hu hE u41 hS (by decide) rfl (by decide) (Nat.le_of_ble_eq_true rfl) (Nat.le_of_ble_eq_true rfl) dX11_init_135 (fun H1 hbq19 hz oq hS => ?_)
  rw [← hq19] at hbq19 hz oq hat19 ⊢
  have ho := ho.kept (oq _ hat19)
  have hQ := pm_one (b' := 1901) (t0 := 19) hQ ky19 (by decide) (by decide) (by decide) hq19 hat19 hAq19 hbq19 oq
  have hleq19 : H0.size ≤ q19 := by rw [hq19, ← h0]; exact hsz
  have oc : ∀ q : Nat, q < H0.size → q ≠ a → H1[q]? = H0[q]? := fun q h1 h2 => (oq q (Nat.lt_of_lt_of_le h1 hleq19)).trans (oc q h1 h2)
  refine wr_putF (k := 19) hx hb hown hu hE ok12 hS hAa ho (by decide) u776 rfl rfl hnm rfl rfl (Nat.le_of_ble_eq_true rfl) dX11_init_137 (fun H1 locs1 ho hz oq hS => ?_)
  have oc : ∀ q : Nat, q < H0.size → q ≠ a → H1[q]? = H0[q]? := fun q h1 h2 => (oq q h2).trans (oc q h1 h2)
  have hQ := pm_put hQ oq
  refine lv_aload_n hx hb dX11_init_140 rfl (lv_at hl 0 rfl) ?_
  refine lv_bipush (v := 60) hx hb dX11_init_141 (by decide) ?_
  obtain ⟨q20, hq20⟩ : ∃ z : Nat, z = H1.size := ⟨_, rfl⟩
  have hAq20 : A q20 := hA q20 (by rw [hq20]; exact hS.1)
  have hsz := hS.1
  have hat20 := at_lt ho
  refine nw_newi (N := 60) hx hb hu hE u41 hS (by decide) rfl (by decide) (Nat.le_of_ble_eq_true rfl) (Nat.le_of_ble_eq_true rfl) dX11_init_143 (fun H1 hbq20 hz oq hS => ?_)
  rw [← hq20] at hbq20 hz oq hat20 ⊢
  have ho := ho.kept (oq _ hat20)
  have hQ := pm_one (b' := 2001) (t0 := 20) hQ ky20 (by decide) (by decide) (by decide) hq20 hat20 hAq20 hbq20 oq
  have hleq20 : H0.size ≤ q20 := by rw [hq20, ← h0]; exact hsz
  have oc : ∀ q : Nat, q < H0.size → q ≠ a → H1[q]? = H0[q]? := fun q h1 h2 => (oq q (Nat.lt_of_lt_of_le h1 hleq20)).trans (oc q h1 h2)
  refine wr_putF (k := 20) hx hb hown hu hE ok12 hS hAa ho (by decide) u777 rfl rfl hnm rfl rfl (Nat.le_of_ble_eq_true rfl) dX11_init_145 (fun H1 locs1 ho hz oq hS => ?_)
  have oc : ∀ q : Nat, q < H0.size → q ≠ a → H1[q]? = H0[q]? := fun q h1 h2 => (oq q h2).trans (oc q h1 h2)
  have hQ := pm_put hQ oq
  refine lv_aload_n hx hb dX11_init_148 rfl (lv_at hl 0 rfl) ?_
  refine lv_bipush (v := 60) hx hb dX11_init_149 (by decide) ?_
  obtain ⟨q21, hq21⟩ : ∃ z : Nat, z = H1.size := ⟨_, rfl⟩
  have hAq21 : A q21 := hA q21 (by rw [hq21]; exact hS.1)
  have hsz := hS.1
  have hat21 := at_lt ho
  refine nw_newi (N := 60) hx hb hu hE u41 hS (by decide) rfl (by decide) (Nat.le_of_ble_eq_true rfl) (Nat.le_of_ble_eq_true rfl) dX11_init_151 (fun H1 hbq21 hz oq hS => ?_)
  rw [← hq21] at hbq21 hz oq hat21 ⊢
  have ho := ho.kept (oq _ hat21)
  have hQ := pm_one (b' := 2101) (t0 := 21) hQ ky21 (by decide) (by decide) (by decide) hq21 hat21 hAq21 hbq21 oq
  have hleq21 : H0.size ≤ q21 := by rw [hq21, ← h0]; exact hsz
  have oc : ∀ q : Nat, q < H0.size → q ≠ a → H1[q]? = H0[q]? := fun q h1 h2 => (oq q (Nat.lt_of_lt_of_le h1 hleq21)).trans (oc q h1 h2)
  refine wr_putF (k := 21) hx hb hown hu hE ok12 hS hAa ho (by decide) u778 rfl rfl hnm rfl rfl (Nat.le_of_ble_eq_true rfl) dX11_init_153 (fun H1 locs1 ho hz oq hS => ?_)
  have oc : ∀ q : Nat, q < H0.size → q ≠ a → H1[q]? = H0[q]? := fun q h1 h2 => (oq q h2).trans (oc q h1 h2)
  have hQ := pm_put hQ oq
  refine lv_aload_n hx hb dX11_init_156 rfl (lv_at hl 0 rfl) ?_
  refine lv_bipush (v := 60) hx hb dX11_init_157 (by decide) ?_
  obtain ⟨q22, hq22⟩ : ∃ z : Nat, z = H1.size := ⟨_, rfl⟩
  have hAq22 : A q22 := hA q22 (by rw [hq22]; exact hS.1)
  have hsz := hS.1
  have hat22 := at_lt ho
  refine nw_newi (N := 60) hx hb hu hE u41 hS (by decide) rfl (by decide) (Nat.le_of_ble_eq_true rfl) (Nat.le_of_ble_eq_true rfl) dX11_init_159 (fun H1 hbq22 hz oq hS => ?_)
  rw [← hq22] at hbq22 hz oq hat22 ⊢
  have ho := ho.kept (oq _ hat22)
  have hQ := pm_one (b' := 2201) (t0 := 22) hQ ky22 (by decide) (by decide) (by decide) hq22 hat22 hAq22 hbq22 oq
  have hleq22 : H0.size ≤ q22 := by rw [hq22, ← h0]; exact hsz
  have oc : ∀ q : Nat, q < H0.size → q ≠ a → H1[q]? = H0[q]? := fun q h1 h2 => (oq q (Nat.lt_of_lt_of_le h1 hleq22)).trans (oc q h1 h2)
  refine wr_putF (k := 22) hx hb hown hu hE ok12 hS hAa ho (by decide) u779 rfl rfl hnm rfl rfl (Nat.le_of_ble_eq_true rfl) dX11_init_161 (fun H1 locs1 ho hz oq hS => ?_)
  have oc : ∀ q : Nat, q < H0.size → q ≠ a → H1[q]? = H0[q]? := fun q h1 h2 => (oq q h2).trans (oc q h1 h2)
  have hQ := pm_put hQ oq
  refine lv_aload_n hx hb dX11_init_164 rfl (lv_at hl 0 rfl) ?_
  refine lv_bipush (v := 60) hx hb dX11_init_165 (by decide) ?_
  obtain ⟨q24, hq24⟩ : ∃ z : Nat, z = H1.size := ⟨_, rfl⟩
  have hAq24 : A q24 := hA q24 (by rw [hq24]; exact hS.1)
  have hsz := hS.1
  have hat24 := at_lt ho
  refine nw_newi (N := 60) hx hb hu hE u41 hS (by decide) rfl (by decide) (Nat.le_of_ble_eq_true rfl) (Nat.le_of_ble_eq_true rfl) dX11_init_167 (fun H1 hbq24 hz oq hS => ?_)
  rw [← hq24] at hbq24 hz oq hat24 ⊢
  have ho := ho.kept (oq _ hat24)
  have hQ := pm_one (b' := 2401) (t0 := 24) hQ ky24 (by decide) (by decide) (by decide) hq24 hat24 hAq24 hbq24 oq
  have hleq24 : H0.size ≤ q24 := by rw [hq24, ← h0]; exact hsz
  have oc : ∀ q : Nat, q < H0.size → q ≠ a → H1[q]? = H0[q]? := fun q h1 h2 => (oq q (Nat.lt_of_lt_of_le h1 hleq24)).trans (oc q h1 h2)
  refine wr_putF (k := 24) hx hb hown hu hE ok12 hS hAa ho (by decide) u781 rfl rfl hnm rfl rfl (Nat.le_of_ble_eq_true rfl) dX11_init_169 (fun H1 locs1 ho hz oq hS => ?_)
  have oc : ∀ q : Nat, q < H0.size → q ≠ a → H1[q]? = H0[q]? := fun q h1 h2 => (oq q h2).trans (oc q h1 h2)
  have hQ := pm_put hQ oq
  refine lv_aload_n hx hb dX11_init_172 rfl (lv_at hl 0 rfl) ?_
  refine lv_bipush (v := 60) hx hb dX11_init_173 (by decide) ?_
  obtain ⟨q25, hq25⟩ : ∃ z : Nat, z = H1.size := ⟨_, rfl⟩
  have hAq25 : A q25 := hA q25 (by rw [hq25]; exact hS.1)
  have hsz := hS.1
  have hat25 := at_lt ho
  refine nw_newi (N := 60) hx hb hu hE u41 hS (by decide) rfl (by decide) (Nat.le_of_ble_eq_true rfl) (Nat.le_of_ble_eq_true rfl) dX11_init_175 (fun H1 hbq25 hz oq hS => ?_)
  rw [← hq25] at hbq25 hz oq hat25 ⊢
  have ho := ho.kept (oq _ hat25)
  have hQ := pm_one (b' := 2501) (t0 := 25) hQ ky25 (by decide) (by decide) (by decide) hq25 hat25 hAq25 hbq25 oq
  have hleq25 : H0.size ≤ q25 := by rw [hq25, ← h0]; exact hsz
  have oc : ∀ q : Nat, q < H0.size → q ≠ a → H1[q]? = H0[q]? := fun q h1 h2 => (oq q (Nat.lt_of_lt_of_le h1 hleq25)).trans (oc q h1 h2)
  refine wr_putF (k := 25) hx hb hown hu hE ok12 hS hAa ho (by decide) u782 rfl rfl hnm rfl rfl (Nat.le_of_ble_eq_true rfl) dX11_init_177 (fun H1 locs1 ho hz oq hS => ?_)
  have oc : ∀ q : Nat, q < H0.size → q ≠ a → H1[q]? = H0[q]? := fun q h1 h2 => (oq q h2).trans (oc q h1 h2)
  have hQ := pm_put hQ oq
  refine lv_aload_n hx hb dX11_init_180 rfl (lv_at hl 0 rfl) ?_
  refine lv_bipush (v := 6) hx hb dX11_init_181 (by decide) ?_
  obtain ⟨q27, hq27⟩ : ∃ z : Nat, z = H1.size := ⟨_, rfl⟩
  have hAq27 : A q27 := hA q27 (by rw [hq27]; exact hS.1)
  have hsz := hS.1
  have hat27 := at_lt ho
  refine nw_newi (N := 6) hx hb hu hE u41 hS (by decide) rfl (by decide) (Nat.le_of_ble_eq_true rfl) (Nat.le_of_ble_eq_true rfl) dX11_init_183 (fun H1 hbq27 hz oq hS => ?_)
  rw [← hq27] at hbq27 hz oq hat27 ⊢
  have ho := ho.kept (oq _ hat27)
  have hQ := pm_one (b' := 2701) (t0 := 27) hQ ky27 (by decide) (by decide) (by decide) hq27 hat27 hAq27 hbq27 oq
  have hleq27 : H0.size ≤ q27 := by rw [hq27, ← h0]; exact hsz
  have oc : ∀ q : Nat, q < H0.size → q ≠ a → H1[q]? = H0[q]? := fun q h1 h2 => (oq q (Nat.lt_of_lt_of_le h1 hleq27)).trans (oc q h1 h2)
  refine wr_putF (k := 27) hx hb hown hu hE ok12 hS hAa ho (by decide) u784 rfl rfl hnm rfl rfl (Nat.le_of_ble_eq_true rfl) dX11_init_185 (fun H1 locs1 ho hz oq hS => ?_)
  have oc : ∀ q : Nat, q < H0.size → q ≠ a → H1[q]? = H0[q]? := fun q h1 h2 => (oq q h2).trans (oc q h1 h2)
  have hQ := pm_put hQ oq
  refine lv_aload_n hx hb dX11_init_188 rfl (lv_at hl 0 rfl) ?_
  refine lv_bipush (v := 60) hx hb dX11_init_189 (by decide) ?_
  refine lv_bipush (v := 8) hx hb dX11_init_191 (by decide) ?_
  obtain ⟨q29, hq29⟩ : ∃ z : Nat, z = H1.size := ⟨_, rfl⟩
  have hAq29 : ∀ q, q29 ≤ q → A q := fun q hq => hA q (Nat.le_trans hS.1 (by rw [← hq29]; exact hq))
  have hsz := hS.1
  have hat29 := at_lt ho
  refine nw_mna (N := 60) (K := 8) hx hb hown hu hE u755 hO u41 hS (by decide) (by decide) rfl rfl (by decide) (by decide) (Nat.le_of_ble_eq_true rfl) (Nat.le_of_ble_eq_true rfl) dX11_init_193 (fun H1 hbq29 hrq29 hz oq hS => ?_)
  rw [← hq29] at hbq29 hz oq hat29 ⊢
  simp only [← hq29] at hbq29 hrq29
  have ho := ho.kept (oq _ hat29)
  have hQ := pm_rows (b' := 3000) (t0 := 29) (rb := 200) hQ ky29 (by decide) hq29 hat29 hAq29 hbq29 hrq29 oq
  have hleq29 : H0.size ≤ q29 := by rw [hq29, ← h0]; exact hsz
  have oc : ∀ q : Nat, q < H0.size → q ≠ a → H1[q]? = H0[q]? := fun q h1 h2 => (oq q (Nat.lt_of_lt_of_le h1 hleq29)).trans (oc q h1 h2)
  refine wr_putF (k := 29) hx hb hown hu hE ok12 hS hAa ho (by decide) u786 rfl rfl hnm rfl rfl (Nat.le_of_ble_eq_true rfl) dX11_init_197 (fun H1 locs1 ho hz oq hS => ?_)
  have oc : ∀ q : Nat, q < H0.size → q ≠ a → H1[q]? = H0[q]? := fun q h1 h2 => (oq q h2).trans (oc q h1 h2)
  have hQ := pm_put hQ oq
  refine lv_aload_n hx hb dX11_init_200 rfl (lv_at hl 0 rfl) ?_
  refine lv_bipush (v := 100) hx hb dX11_init_201 (by decide) ?_
  obtain ⟨q31, hq31⟩ : ∃ z : Nat, z = H1.size := ⟨_, rfl⟩
  have hAq31 : A q31 := hA q31 (by rw [hq31]; exact hS.1)
  have hsz := hS.1
  have hat31 := at_lt ho
  refine nw_newi (N := 100) hx hb hu hE u41 hS (by decide) rfl (by decide) (Nat.le_of_ble_eq_true rfl) (Nat.le_of_ble_eq_true rfl) dX11_init_203 (fun H1 hbq31 hz oq hS => ?_)
  rw [← hq31] at hbq31 hz oq hat31 ⊢
  have ho := ho.kept (oq _ hat31)
  have hQ := pm_one (b' := 3101) (t0 := 31) hQ ky31 (by decide) (by decide) (by decide) hq31 hat31 hAq31 hbq31 oq
  have hleq31 : H0.size ≤ q31 := by rw [hq31, ← h0]; exact hsz
  have oc : ∀ q : Nat, q < H0.size → q ≠ a → H1[q]? = H0[q]? := fun q h1 h2 => (oq q (Nat.lt_of_lt_of_le h1 hleq31)).trans (oc q h1 h2)
  refine wr_putF (k := 31) hx hb hown hu hE ok12 hS hAa ho (by decide) u788 rfl rfl hnm rfl rfl (Nat.le_of_ble_eq_true rfl) dX11_init_205 (fun H1 locs1 ho hz oq hS => ?_)
  have oc : ∀ q : Nat, q < H0.size → q ≠ a → H1[q]? = H0[q]? := fun q h1 h2 => (oq q h2).trans (oc q h1 h2)
  have hQ := pm_put hQ oq
  refine lv_aload_n hx hb dX11_init_208 rfl (lv_at hl 0 rfl) ?_
  refine lv_bipush (v := 100) hx hb dX11_init_209 (by decide) ?_
  obtain ⟨q32, hq32⟩ : ∃ z : Nat, z = H1.size := ⟨_, rfl⟩
  have hAq32 : A q32 := hA q32 (by rw [hq32]; exact hS.1)
  have hsz := hS.1
  have hat32 := at_lt ho
  refine nw_newi (N := 100) hx hb hu hE u41 hS (by decide) rfl (by decide) (Nat.le_of_ble_eq_true rfl) (Nat.le_of_ble_eq_true rfl) dX11_init_211 (fun H1 hbq32 hz oq hS => ?_)
  rw [← hq32] at hbq32 hz oq hat32 ⊢
  have ho := ho.kept (oq _ hat32)
  have hQ := pm_one (b' := 3201) (t0 := 32) hQ ky32 (by decide) (by decide) (by decide) hq32 hat32 hAq32 hbq32 oq
  have hleq32 : H0.size ≤ q32 := by rw [hq32, ← h0]; exact hsz
  have oc : ∀ q : Nat, q < H0.size → q ≠ a → H1[q]? = H0[q]? := fun q h1 h2 => (oq q (Nat.lt_of_lt_of_le h1 hleq32)).trans (oc q h1 h2)
  refine wr_putF (k := 32) hx hb hown hu hE ok12 hS hAa ho (by decide) u789 rfl rfl hnm rfl rfl (Nat.le_of_ble_eq_true rfl) dX11_init_213 (fun H1 locs1 ho hz oq hS => ?_)
  have oc : ∀ q : Nat, q < H0.size → q ≠ a → H1[q]? = H0[q]? := fun q h1 h2 => (oq q h2).trans (oc q h1 h2)
  have hQ := pm_put hQ oq
  refine lv_aload_n hx hb dX11_init_216 rfl (lv_at hl 0 rfl) ?_
  refine lv_bipush (v := 100) hx hb dX11_init_217 (by decide) ?_
  obtain ⟨q33, hq33⟩ : ∃ z : Nat, z = H1.size := ⟨_, rfl⟩
  have hAq33 : A q33 := hA q33 (by rw [hq33]; exact hS.1)
  have hsz := hS.1
  have hat33 := at_lt ho
  refine nw_newi (N := 100) hx hb hu hE u41 hS (by decide) rfl (by decide) (Nat.le_of_ble_eq_true rfl) (Nat.le_of_ble_eq_true rfl) dX11_init_219 (fun H1 hbq33 hz oq hS => ?_)
  rw [← hq33] at hbq33 hz oq hat33 ⊢
  have ho := ho.kept (oq _ hat33)
  have hQ := pm_one (b' := 3301) (t0 := 33) hQ ky33 (by decide) (by decide) (by decide) hq33 hat33 hAq33 hbq33 oq
  have hleq33 : H0.size ≤ q33 := by rw [hq33, ← h0]; exact hsz
  have oc : ∀ q : Nat, q < H0.size → q ≠ a → H1[q]? = H0[q]? := fun q h1 h2 => (oq q (Nat.lt_of_lt_of_le h1 hleq33)).trans (oc q h1 h2)
  refine wr_putF (k := 33) hx hb hown hu hE ok12 hS hAa ho (by decide) u790 rfl rfl hnm rfl rfl (Nat.le_of_ble_eq_true rfl) dX11_init_221 (fun H1 locs1 ho hz oq hS => ?_)
  have oc : ∀ q : Nat, q < H0.size → q ≠ a → H1[q]? = H0[q]? := fun q h1 h2 => (oq q h2).trans (oc q h1 h2)
  have hQ := pm_put hQ oq
  refine lv_aload_n hx hb dX11_init_224 rfl (lv_at hl 0 rfl) ?_
  refine lv_bipush (v := 100) hx hb dX11_init_225 (by decide) ?_
  obtain ⟨q34, hq34⟩ : ∃ z : Nat, z = H1.size := ⟨_, rfl⟩
  have hAq34 : A q34 := hA q34 (by rw [hq34]; exact hS.1)
  have hsz := hS.1
  have hat34 := at_lt ho
  refine nw_newi (N := 100) hx hb hu hE u41 hS (by decide) rfl (by decide) (Nat.le_of_ble_eq_true rfl) (Nat.le_of_ble_eq_true rfl) dX11_init_227 (fun H1 hbq34 hz oq hS => ?_)
  rw [← hq34] at hbq34 hz oq hat34 ⊢
  have ho := ho.kept (oq _ hat34)
  have hQ := pm_one (b' := 4000) (t0 := 34) hQ ky34 (by decide) (by decide) (by decide) hq34 hat34 hAq34 hbq34 oq
  have hleq34 : H0.size ≤ q34 := by rw [hq34, ← h0]; exact hsz
  have oc : ∀ q : Nat, q < H0.size → q ≠ a → H1[q]? = H0[q]? := fun q h1 h2 => (oq q (Nat.lt_of_lt_of_le h1 hleq34)).trans (oc q h1 h2)
  refine wr_putF (k := 34) hx hb hown hu hE ok12 hS hAa ho (by decide) u791 rfl rfl hnm rfl rfl (Nat.le_of_ble_eq_true rfl) dX11_init_229 (fun H1 locs1 ho hz oq hS => ?_)
  have oc : ∀ q : Nat, q < H0.size → q ≠ a → H1[q]? = H0[q]? := fun q h1 h2 => (oq q h2).trans (oc q h1 h2)
  have hQ := pm_put hQ oq
  exact ct_rv hx hb hr hlocks hS (⟨rfl, ⟨_, rfl, md_init (M := (mU (mU (mU (mU (mR (mU (mU (mU (mU (mU (mU (mU (mU (mU (mU (mU (mU (mU (mU (mU (mU (mU (mU (mU (mU (mU (mR (fun _ => a) 1 100 q1) 3 q3) 4 q4) 5 q5) 6 q6) 7 q7) 8 q8) 9 q9) 10 q10) 12 q12) 13 q13) 14 q14) 16 q16) 17 q17) 18 q18) 19 q19) 20 q20) 21 q21) 22 q22) 24 q24) 25 q25) 27 q27) 29 200 q29) 31 q31) 32 q32) 33 q33) 34 q34)) hQ rfl hAa ho⟩, oc⟩) (Nat.le_of_ble_eq_true rfl) (Nat.le_of_ble_eq_true rfl) dX11_init_232
