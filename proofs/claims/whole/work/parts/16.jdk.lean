theorem m_max_nI {b d : Nat} (h2 : b < 2 ^ 31) (h3 : d < 2 ^ 31) : m_max (nI b) (nI d) = nI (if b < d then d else b) := by
  unfold m_max
  by_cases e : b < d
  · rw [if_pos e, if_pos (nI_lt e h3)]
  · rw [if_neg e, if_neg (nI_nlt (by omega) h2)]
set_option maxHeartbeats 1000000 in
set_option maxRecDepth 20000 in
theorem c_lsize (l : Launch) (E : EV) (lo_ ar : Nat) (md n : Int32) : Cr l E yJx4a65c_size_8abf5 cJx4a65c_size_8abf5 1 (some .int) 0 0 [.ref lo_] (fun H => ob E lo_ 0 [.int md, .ref ar, .int n] H) (some (.int n)) := by
  refine Cr.of (by decide +kernel) (Nat.le_of_ble_eq_true rfl) (fun pg ev s mi bel mth cd hx hb hr hml hown hu hlocks hE hP ls hl => ?_)
  have hl : lv_has ls 1 [(0, .ref lo_)] := hl
  have hL := hP
  refine lv_aload_n hx hb dJx4a65c_size_8abf5_0 rfl (lv_at hl 0 rfl) ?_
  refine rd_get (k := 2) (v := .int n) hx hb hown hu hE ok0 (hL) (by decide) u64 (fun _ h => h) rfl dJx4a65c_size_8abf5_1 ?_
  exact cr_ri hx hb hr hlocks (rfl) dJx4a65c_size_8abf5_4
set_option maxHeartbeats 1000000 in
set_option maxRecDepth 20000 in
theorem c_elD (l : Launch) (E : EV) (lo_ ar cap : Nat) (f : Nat → Option Nat) (md n : Int32) (i x : Nat) : Cr l E yJx4a65c_elementData_915e3 cJx4a65c_elementData_915e3 2 (some (.object "java/lang/Object")) 0 0 [.ref lo_, .int (nI i)] (fun H => ob E lo_ 0 [.int md, .ref ar, .int n] H ∧ qa E ar cap f H ∧ i < cap ∧ cap < 2 ^ 31 ∧ f i = some x) (some (.ref x)) := by
  refine Cr.of (by decide +kernel) (Nat.le_of_ble_eq_true rfl) (fun pg ev s mi bel mth cd hx hb hr hml hown hu hlocks hE hP ls hl => ?_)
  have hl : lv_has ls 2 [(0, .ref lo_), (1, .int (nI i))] := hl
  obtain ⟨hL, hQ, h1, h2, h3⟩ := hP
  refine lv_aload_n hx hb dJx4a65c_elementData_915e3_0 rfl (lv_at hl 0 rfl) ?_
  refine rd_get (k := 1) (v := .ref ar) hx hb hown hu hE ok0 (hL) (by decide) u63 (fun _ h => h) rfl dJx4a65c_elementData_915e3_1 ?_
  refine lv_iload_n hx hb dJx4a65c_elementData_915e3_4 rfl (lv_at hl 1 rfl) ?_
  refine rd_qald (x := x) hx hb hE (hQ) (vp_in_nI h1 h2) (by rw [nI_clamp (by omega)]; exact h3) dJx4a65c_elementData_915e3_5 ?_
  exact cr_ra hx hb hr (Or.inl ⟨_, rfl⟩) (Or.inr ⟨_, rfl⟩) hlocks (rfl) dJx4a65c_elementData_915e3_6
set_option maxHeartbeats 1000000 in
set_option maxRecDepth 20000 in
theorem c_ckP (l : Launch) (E : EV) (i n : Int32) : Cr l E yJ3_checkIndex_8e157 cJ3_checkIndex_8e157 3 (some .int) 0 0 [.int i, .int n, .null] (fun H => ¬ i < 0 ∧ i < n) (some (.int i)) := by
  refine Cr.of (by decide +kernel) (Nat.le_of_ble_eq_true rfl) (fun pg ev s mi bel mth cd hx hb hr hml hown hu hlocks hE hP ls hl => ?_)
  have hl : lv_has ls 3 [(0, .int i), (1, .int n), (2, .null)] := hl
  refine lv_iload_n hx hb dJ3_checkIndex_8e157_0 rfl (lv_at hl 0 rfl) ?_
  refine lv_if_lt (tgt := 9) hx hb dJ3_checkIndex_8e157_1 (by decide) (fun c1 => absurd c1 hP.1) (fun c1 => ?_)
  refine lv_iload_n hx hb dJ3_checkIndex_8e157_4 rfl (lv_at hl 0 rfl) ?_
  refine lv_iload_n hx hb dJ3_checkIndex_8e157_5 rfl (lv_at hl 1 rfl) ?_
  refine lv_icmp_lt (tgt := 16) hx hb dJ3_checkIndex_8e157_6 (by decide) (fun c2 => ?_) (fun c2 => absurd hP.2 c2)
  refine lv_iload_n hx hb dJ3_checkIndex_8e157_16 rfl (lv_at hl 0 rfl) ?_
  exact cr_ri hx hb hr hlocks (rfl) dJ3_checkIndex_8e157_17
set_option maxHeartbeats 1000000 in
set_option maxRecDepth 20000 in
theorem c_ckO (l : Launch) (E : EV) (i n : Int32) : Cr l E yJ15_checkIndex_7cf53 cJ15_checkIndex_7cf53 2 (some .int) 1 22 [.int i, .int n] (fun H => ¬ i < 0 ∧ i < n) (some (.int i)) := by
  refine Cr.of (by decide +kernel) (Nat.le_of_ble_eq_true rfl) (fun pg ev s mi bel mth cd hx hb hr hml hown hu hlocks hE hP ls hl => ?_)
  have hl : lv_has ls 2 [(0, .int i), (1, .int n)] := hl
  refine lv_iload_n hx hb dJ15_checkIndex_7cf53_0 rfl (lv_at hl 0 rfl) ?_
  refine lv_iload_n hx hb dJ15_checkIndex_7cf53_1 rfl (lv_at hl 1 rfl) ?_
  refine lv_null hx hb dJ15_checkIndex_7cf53_2 ?_
  refine cr_S (As := [.int i, .int n, .null]) (rest := []) hx hb hml hown hu hE (c_ckP l E i n) kJ3_checkIndex_8e157 u282 (hP) ⟨Nat.le_of_ble_eq_true rfl, Nat.le_of_ble_eq_true rfl⟩ rfl hl.1 rfl (Nat.le_of_ble_eq_true rfl) ⟨Nat.le_of_ble_eq_true rfl, Nat.le_of_ble_eq_true rfl⟩ dJ15_checkIndex_7cf53_3 ?_
  exact cr_ri hx hb hr hlocks (rfl) dJ15_checkIndex_7cf53_6
set_option maxHeartbeats 1000000 in
set_option maxRecDepth 20000 in
theorem c_lget (l : Launch) (E : EV) (lo_ ar cap : Nat) (f : Nat → Option Nat) (md : Int32) (n i x : Nat) : Cr l E yJx4a65c_get_915e3 cJx4a65c_get_915e3 2 (some (.object "java/lang/Object")) 2 43 [.ref lo_, .int (nI i)] (fun H => ob E lo_ 0 [.int md, .ref ar, .int (nI n)] H ∧ qa E ar cap f H ∧ i < n ∧ n ≤ cap ∧ cap < 2 ^ 31 ∧ f i = some x) (some (.ref x)) := by
  refine Cr.of (by decide +kernel) (Nat.le_of_ble_eq_true rfl) (fun pg ev s mi bel mth cd hx hb hr hml hown hu hlocks hE hP ls hl => ?_)
  have hl : lv_has ls 2 [(0, .ref lo_), (1, .int (nI i))] := hl
  obtain ⟨hL, hQ, h1, h2, h3, h4⟩ := hP
  refine lv_iload_n hx hb dJx4a65c_get_915e3_0 rfl (lv_at hl 1 rfl) ?_
  refine lv_aload_n hx hb dJx4a65c_get_915e3_1 rfl (lv_at hl 0 rfl) ?_
  refine rd_get (k := 2) (v := .int (nI n)) hx hb hown hu hE ok0 (hL) (by decide) u64 (fun _ h => h) rfl dJx4a65c_get_915e3_2 ?_
  refine cr_S (As := [.int (nI i), .int (nI n)]) (rest := []) hx hb hml hown hu hE (c_ckO l E (nI i) (nI n)) kJ15_checkIndex_7cf53 u279 (⟨nI_pos (by omega), nI_lt h1 (by omega)⟩) ⟨Nat.le_of_ble_eq_true rfl, Nat.le_of_ble_eq_true rfl⟩ rfl hl.1 rfl (Nat.le_of_ble_eq_true rfl) ⟨Nat.le_of_ble_eq_true rfl, Nat.le_of_ble_eq_true rfl⟩ dJx4a65c_get_915e3_5 ?_
  refine lv_pop hx hb dJx4a65c_get_915e3_8 rfl ?_
  refine lv_aload_n hx hb dJx4a65c_get_915e3_9 rfl (lv_at hl 0 rfl) ?_
  refine lv_iload_n hx hb dJx4a65c_get_915e3_10 rfl (lv_at hl 1 rfl) ?_
  refine cr_V (As := [.int (nI i)]) (rest := []) hx hb hml hown hu hE (c_elD l E lo_ ar cap f md (nI n) i x) kJx4a65c_elementData_915e3 u285 (hL) rfl rfl (⟨hL, hQ, by omega, h3, h4⟩) ⟨Nat.le_of_ble_eq_true rfl, Nat.le_of_ble_eq_true rfl⟩ rfl hl.1 rfl (Nat.le_of_ble_eq_true rfl) ⟨Nat.le_of_ble_eq_true rfl, Nat.le_of_ble_eq_true rfl⟩ dJx4a65c_get_915e3_11 ?_
  exact cr_ra hx hb hr (Or.inl ⟨_, rfl⟩) (Or.inr ⟨_, rfl⟩) hlocks (rfl) dJx4a65c_get_915e3_14
set_option maxHeartbeats 1000000 in
set_option maxRecDepth 20000 in
theorem c_newLen (l : Launch) (E : EV) (a b : Nat) (d : Nat) : Cr l E yJ8_newLength_cabcc cJ8_newLength_cabcc 4 (some .int) 1 21 [.int (nI a), .int (nI b), .int (nI d)] (fun H => 0 < a + (if b < d then d else b) ∧ a < 100000 ∧ b < 100000 ∧ d < 100000) (some (.int (nI (a + (if b < d then d else b))))) := by
  refine Cr.of (by decide +kernel) (Nat.le_of_ble_eq_true rfl) (fun pg ev s mi bel mth cd hx hb hr hml hown hu hlocks hE hP ls hl => ?_)
  have hl : lv_has ls 4 [(0, .int (nI a)), (1, .int (nI b)), (2, .int (nI d))] := hl
  obtain ⟨h0, h1, h2, h3⟩ := hP
  have em := m_max_nI (b := b) (d := d) (by omega) (by omega)
  have hm : (if b < d then d else b) < 100000 := by split <;> omega
  generalize (if b < d then d else b) = z at em hm h0 ⊢
  refine lv_iload_n hx hb dJ8_newLength_cabcc_0 rfl (lv_at hl 0 rfl) ?_
  refine lv_iload_n hx hb dJ8_newLength_cabcc_1 rfl (lv_at hl 1 rfl) ?_
  refine lv_iload_n hx hb dJ8_newLength_cabcc_2 rfl (lv_at hl 2 rfl) ?_
  refine va_mmax hx hb (by rw [hml]; exact hl.1.symm) hown (hu _ u217) (hu _ u218) (hu _ u11) (hu _ u219) (Nat.le_of_ble_eq_true rfl) (Nat.le_of_ble_eq_true rfl) (Nat.le_of_ble_eq_true rfl) (Nat.le_of_ble_eq_true rfl) dJ8_newLength_cabcc_3 ?_
  rw [show (if nI b < nI d then nI d else nI b) = nI z from em]
  refine lv_iadd hx hb dJ8_newLength_cabcc_6 ?_
  rw [nI_add]
  refine lv_istore_n (lv' := [(3, .int (nI (a + z))), (0, .int (nI a)), (1, .int (nI b)), (2, .int (nI d))]) hx hb dJ8_newLength_cabcc_7 rfl hl (by decide) rfl (fun ls hl => ?_)
  refine lv_iconst (v := 0) hx hb dJ8_newLength_cabcc_8 (by decide) ?_
  refine lv_iload_n hx hb dJ8_newLength_cabcc_9 rfl (lv_at hl 0 rfl) ?_
  refine lv_icmp_ge (tgt := 21) hx hb dJ8_newLength_cabcc_10 (by decide) (fun c1 => absurd c1 (show ¬ nI (a + z) ≤ nI 0 from nI_ge (by omega) (by omega))) (fun c1 => ?_)
  refine lv_iload_n hx hb dJ8_newLength_cabcc_13 rfl (lv_at hl 0 rfl) ?_
  refine lv_ldc (v := 2147483639) hx hb hown (hu _ u220) dJ8_newLength_cabcc_14 ?_
  refine lv_icmp_gt (tgt := 21) hx hb dJ8_newLength_cabcc_16 (by decide) (fun c2 => absurd c2 (show ¬ nI 2147483639 < nI (a + z) from nI_nlt (by omega) (by decide))) (fun c2 => ?_)
  refine lv_iload_n hx hb dJ8_newLength_cabcc_19 rfl (lv_at hl 0 rfl) ?_
  exact cr_ri hx hb hr hlocks (rfl) dJ8_newLength_cabcc_20
