set_option maxHeartbeats 4000000 in
set_option maxRecDepth 20000 in
theorem i_Mod (l : Launch) (E : EV) (A : Nat → Prop) (H0 : Heap) (a : Nat) : CtX l E yX11_init cX11_init 1 none 1 20 160 26000 A [.ref a] (fun H => H = H0 ∧ ob E a 12 df12 H ∧ A a) (fun v H => v = none ∧ (∃ M : Nat → Nat, M 0 = a ∧ Md E A s0 M H) ∧ ∀ q : Nat, q < H0.size → q ≠ a → H[q]? = H0[q]?) := by
  refine CtX.of (by decide +kernel) (Nat.le_of_ble_eq_true rfl) (fun pg ev s mi bel mth cd hx hb hr hml hown hu hlocks hnm hE hO hP hA hZ ls hl => ?_)
  have hl : lv_has ls 1 [(0, .ref a)] := hl
  have hS : va_S A s.heap s.heap [] := va_S.rf
  obtain ⟨h0, ho, hAa⟩ := hP
  subst h0
  have oc : ∀ q : Nat, q < s.heap.size → q ≠ a → s.heap[q]? = s.heap[q]? := fun _ _ _ => rfl
  have hQ : Pm E A a (fun _ => a) 0 s.heap := fun t _ _ h => absurd h (Nat.not_lt_zero _)
  refine lv_aload_n hx hb dX11_init_0 rfl (lv_at hl 0 rfl) ?_
  refine W.objInit hx hb hown (hu _ u754) (hu _ u29) (hu _ u30) rfl (by rw [hml]; exact hl.1) rfl dX11_init_1 (Nat.le_of_ble_eq_true rfl) (Nat.le_of_ble_eq_true rfl) ?_
  refine W.eq (g2 := F0 mi 4 ls []) rfl ?_
  have ho : ob E a 12 [.int 0, .null, .int 0, .null, .null, .null, .null, .null, .null, .null, .null, .int 0, .null, .null, .null, .int 0, .null, .null, .null, .null, .null, .null, .null, .int 0, .null, .null, .int 0, .null, .int 0, .null, .int 0, .null, .null, .null, .null, .int 0] s.heap := ho
  refine lv_aload_n hx hb dX11_init_4 rfl (lv_at hl 0 rfl) ?_
  refine lv_bipush (v := 60) hx hb dX11_init_5 (by decide) ?_
  refine lv_bipush (v := 8) hx hb dX11_init_7 (by decide) ?_
  refine mi_r (t0 := 1) (rb := 100) (b' := 300) hx hb hown hu hE hO hnm hA hAa u41 u755 hS ho hQ oc (by decide) (Nat.le_of_ble_eq_true rfl) u758 rfl rfl rfl ky1 (by decide) (by decide) (by decide) rfl rfl (Nat.le_of_ble_eq_true rfl) (Nat.le_of_ble_eq_true rfl) dX11_init_9 dX11_init_13 (fun H1 locs1 q1 ho hQ oc hS => ?_)
  have ho : ob E a 12 [.int 0, .ref q1, .int 0, .null, .null, .null, .null, .null, .null, .null, .null, .int 0, .null, .null, .null, .int 0, .null, .null, .null, .null, .null, .null, .null, .int 0, .null, .null, .int 0, .null, .int 0, .null, .int 0, .null, .null, .null, .null, .int 0] H1 := ho
  refine lv_aload_n hx hb dX11_init_16 rfl (lv_at hl 0 rfl) ?_
  refine lv_bipush (v := 8) hx hb dX11_init_17 (by decide) ?_
  refine mi_i (t0 := 3) (b' := 301) (N := 8) hx hb hown hu hE hnm hA hAa u41 hS ho hQ oc (by decide) (Nat.le_of_ble_eq_true rfl) u760 rfl rfl rfl ky3 (by decide) (by decide) (by decide) (fun _ => rfl) (by decide) rfl (by decide) (Nat.le_of_ble_eq_true rfl) (Nat.le_of_ble_eq_true rfl) dX11_init_19 dX11_init_21 (fun H1 locs1 q3 ho hQ oc hS => ?_)
  have ho : ob E a 12 [.int 0, .ref q1, .int 0, .ref q3, .null, .null, .null, .null, .null, .null, .null, .int 0, .null, .null, .null, .int 0, .null, .null, .null, .null, .null, .null, .null, .int 0, .null, .null, .int 0, .null, .int 0, .null, .int 0, .null, .null, .null, .null, .int 0] H1 := ho
  refine lv_aload_n hx hb dX11_init_24 rfl (lv_at hl 0 rfl) ?_
  refine lv_bipush (v := 40) hx hb dX11_init_25 (by decide) ?_
  refine mi_i (t0 := 4) (b' := 401) (N := 40) hx hb hown hu hE hnm hA hAa u41 hS ho hQ oc (by decide) (Nat.le_of_ble_eq_true rfl) u761 rfl rfl rfl ky4 (by decide) (by decide) (by decide) (fun _ => rfl) (by decide) rfl (by decide) (Nat.le_of_ble_eq_true rfl) (Nat.le_of_ble_eq_true rfl) dX11_init_27 dX11_init_29 (fun H1 locs1 q4 ho hQ oc hS => ?_)
  have ho : ob E a 12 [.int 0, .ref q1, .int 0, .ref q3, .ref q4, .null, .null, .null, .null, .null, .null, .int 0, .null, .null, .null, .int 0, .null, .null, .null, .null, .null, .null, .null, .int 0, .null, .null, .int 0, .null, .int 0, .null, .int 0, .null, .null, .null, .null, .int 0] H1 := ho
  refine lv_aload_n hx hb dX11_init_32 rfl (lv_at hl 0 rfl) ?_
  refine lv_bipush (v := 40) hx hb dX11_init_33 (by decide) ?_
  refine mi_i (t0 := 5) (b' := 501) (N := 40) hx hb hown hu hE hnm hA hAa u41 hS ho hQ oc (by decide) (Nat.le_of_ble_eq_true rfl) u762 rfl rfl rfl ky5 (by decide) (by decide) (by decide) (fun _ => rfl) (by decide) rfl (by decide) (Nat.le_of_ble_eq_true rfl) (Nat.le_of_ble_eq_true rfl) dX11_init_35 dX11_init_37 (fun H1 locs1 q5 ho hQ oc hS => ?_)
  have ho : ob E a 12 [.int 0, .ref q1, .int 0, .ref q3, .ref q4, .ref q5, .null, .null, .null, .null, .null, .int 0, .null, .null, .null, .int 0, .null, .null, .null, .null, .null, .null, .null, .int 0, .null, .null, .int 0, .null, .int 0, .null, .int 0, .null, .null, .null, .null, .int 0] H1 := ho
  refine lv_aload_n hx hb dX11_init_40 rfl (lv_at hl 0 rfl) ?_
  refine lv_bipush (v := 40) hx hb dX11_init_41 (by decide) ?_
  refine mi_i (t0 := 6) (b' := 601) (N := 40) hx hb hown hu hE hnm hA hAa u41 hS ho hQ oc (by decide) (Nat.le_of_ble_eq_true rfl) u763 rfl rfl rfl ky6 (by decide) (by decide) (by decide) (fun _ => rfl) (by decide) rfl (by decide) (Nat.le_of_ble_eq_true rfl) (Nat.le_of_ble_eq_true rfl) dX11_init_43 dX11_init_45 (fun H1 locs1 q6 ho hQ oc hS => ?_)
  have ho : ob E a 12 [.int 0, .ref q1, .int 0, .ref q3, .ref q4, .ref q5, .ref q6, .null, .null, .null, .null, .int 0, .null, .null, .null, .int 0, .null, .null, .null, .null, .null, .null, .null, .int 0, .null, .null, .int 0, .null, .int 0, .null, .int 0, .null, .null, .null, .null, .int 0] H1 := ho
  refine lv_aload_n hx hb dX11_init_48 rfl (lv_at hl 0 rfl) ?_
  refine lv_bipush (v := 40) hx hb dX11_init_49 (by decide) ?_
  refine mi_i (t0 := 7) (b' := 701) (N := 40) hx hb hown hu hE hnm hA hAa u41 hS ho hQ oc (by decide) (Nat.le_of_ble_eq_true rfl) u764 rfl rfl rfl ky7 (by decide) (by decide) (by decide) (fun _ => rfl) (by decide) rfl (by decide) (Nat.le_of_ble_eq_true rfl) (Nat.le_of_ble_eq_true rfl) dX11_init_51 dX11_init_53 (fun H1 locs1 q7 ho hQ oc hS => ?_)
  have ho : ob E a 12 [.int 0, .ref q1, .int 0, .ref q3, .ref q4, .ref q5, .ref q6, .ref q7, .null, .null, .null, .int 0, .null, .null, .null, .int 0, .null, .null, .null, .null, .null, .null, .null, .int 0, .null, .null, .int 0, .null, .int 0, .null, .int 0, .null, .null, .null, .null, .int 0] H1 := ho
  refine lv_aload_n hx hb dX11_init_56 rfl (lv_at hl 0 rfl) ?_
  refine lv_bipush (v := 40) hx hb dX11_init_57 (by decide) ?_
  refine mi_i (t0 := 8) (b' := 801) (N := 40) hx hb hown hu hE hnm hA hAa u41 hS ho hQ oc (by decide) (Nat.le_of_ble_eq_true rfl) u765 rfl rfl rfl ky8 (by decide) (by decide) (by decide) (fun _ => rfl) (by decide) rfl (by decide) (Nat.le_of_ble_eq_true rfl) (Nat.le_of_ble_eq_true rfl) dX11_init_59 dX11_init_61 (fun H1 locs1 q8 ho hQ oc hS => ?_)
  have ho : ob E a 12 [.int 0, .ref q1, .int 0, .ref q3, .ref q4, .ref q5, .ref q6, .ref q7, .ref q8, .null, .null, .int 0, .null, .null, .null, .int 0, .null, .null, .null, .null, .null, .null, .null, .int 0, .null, .null, .int 0, .null, .int 0, .null, .int 0, .null, .null, .null, .null, .int 0] H1 := ho
  refine lv_aload_n hx hb dX11_init_64 rfl (lv_at hl 0 rfl) ?_
  refine lv_bipush (v := 40) hx hb dX11_init_65 (by decide) ?_
  refine mi_i (t0 := 9) (b' := 901) (N := 40) hx hb hown hu hE hnm hA hAa u41 hS ho hQ oc (by decide) (Nat.le_of_ble_eq_true rfl) u766 rfl rfl rfl ky9 (by decide) (by decide) (by decide) (fun _ => rfl) (by decide) rfl (by decide) (Nat.le_of_ble_eq_true rfl) (Nat.le_of_ble_eq_true rfl) dX11_init_67 dX11_init_69 (fun H1 locs1 q9 ho hQ oc hS => ?_)
  have ho : ob E a 12 [.int 0, .ref q1, .int 0, .ref q3, .ref q4, .ref q5, .ref q6, .ref q7, .ref q8, .ref q9, .null, .int 0, .null, .null, .null, .int 0, .null, .null, .null, .null, .null, .null, .null, .int 0, .null, .null, .int 0, .null, .int 0, .null, .int 0, .null, .null, .null, .null, .int 0] H1 := ho
  refine lv_aload_n hx hb dX11_init_72 rfl (lv_at hl 0 rfl) ?_
  refine lv_bipush (v := 40) hx hb dX11_init_73 (by decide) ?_
  refine mi_i (t0 := 10) (b' := 1001) (N := 40) hx hb hown hu hE hnm hA hAa u41 hS ho hQ oc (by decide) (Nat.le_of_ble_eq_true rfl) u767 rfl rfl rfl ky10 (by decide) (by decide) (by decide) (fun _ => rfl) (by decide) rfl (by decide) (Nat.le_of_ble_eq_true rfl) (Nat.le_of_ble_eq_true rfl) dX11_init_75 dX11_init_77 (fun H1 locs1 q10 ho hQ oc hS => ?_)
  have ho : ob E a 12 [.int 0, .ref q1, .int 0, .ref q3, .ref q4, .ref q5, .ref q6, .ref q7, .ref q8, .ref q9, .ref q10, .int 0, .null, .null, .null, .int 0, .null, .null, .null, .null, .null, .null, .null, .int 0, .null, .null, .int 0, .null, .int 0, .null, .int 0, .null, .null, .null, .null, .int 0] H1 := ho
  refine lv_aload_n hx hb dX11_init_80 rfl (lv_at hl 0 rfl) ?_
  refine lv_sipush (v := 200) hx hb dX11_init_81 (by decide) ?_
  refine mi_i (t0 := 12) (b' := 1201) (N := 200) hx hb hown hu hE hnm hA hAa u41 hS ho hQ oc (by decide) (Nat.le_of_ble_eq_true rfl) u769 rfl rfl rfl ky12 (by decide) (by decide) (by decide) (fun _ => rfl) (by decide) rfl (by decide) (Nat.le_of_ble_eq_true rfl) (Nat.le_of_ble_eq_true rfl) dX11_init_84 dX11_init_86 (fun H1 locs1 q12 ho hQ oc hS => ?_)
  have ho : ob E a 12 [.int 0, .ref q1, .int 0, .ref q3, .ref q4, .ref q5, .ref q6, .ref q7, .ref q8, .ref q9, .ref q10, .int 0, .ref q12, .null, .null, .int 0, .null, .null, .null, .null, .null, .null, .null, .int 0, .null, .null, .int 0, .null, .int 0, .null, .int 0, .null, .null, .null, .null, .int 0] H1 := ho
  refine lv_aload_n hx hb dX11_init_89 rfl (lv_at hl 0 rfl) ?_
  refine lv_sipush (v := 200) hx hb dX11_init_90 (by decide) ?_
  refine mi_i (t0 := 13) (b' := 1301) (N := 200) hx hb hown hu hE hnm hA hAa u41 hS ho hQ oc (by decide) (Nat.le_of_ble_eq_true rfl) u770 rfl rfl rfl ky13 (by decide) (by decide) (by decide) (fun _ => rfl) (by decide) rfl (by decide) (Nat.le_of_ble_eq_true rfl) (Nat.le_of_ble_eq_true rfl) dX11_init_93 dX11_init_95 (fun H1 locs1 q13 ho hQ oc hS => ?_)
  have ho : ob E a 12 [.int 0, .ref q1, .int 0, .ref q3, .ref q4, .ref q5, .ref q6, .ref q7, .ref q8, .ref q9, .ref q10, .int 0, .ref q12, .ref q13, .null, .int 0, .null, .null, .null, .null, .null, .null, .null, .int 0, .null, .null, .int 0, .null, .int 0, .null, .int 0, .null, .null, .null, .null, .int 0] H1 := ho
  refine lv_aload_n hx hb dX11_init_98 rfl (lv_at hl 0 rfl) ?_
  refine lv_sipush (v := 200) hx hb dX11_init_99 (by decide) ?_
  refine mi_i (t0 := 14) (b' := 1401) (N := 200) hx hb hown hu hE hnm hA hAa u41 hS ho hQ oc (by decide) (Nat.le_of_ble_eq_true rfl) u771 rfl rfl rfl ky14 (by decide) (by decide) (by decide) (fun _ => rfl) (by decide) rfl (by decide) (Nat.le_of_ble_eq_true rfl) (Nat.le_of_ble_eq_true rfl) dX11_init_102 dX11_init_104 (fun H1 locs1 q14 ho hQ oc hS => ?_)
  have ho : ob E a 12 [.int 0, .ref q1, .int 0, .ref q3, .ref q4, .ref q5, .ref q6, .ref q7, .ref q8, .ref q9, .ref q10, .int 0, .ref q12, .ref q13, .ref q14, .int 0, .null, .null, .null, .null, .null, .null, .null, .int 0, .null, .null, .int 0, .null, .int 0, .null, .int 0, .null, .null, .null, .null, .int 0] H1 := ho
  refine lv_aload_n hx hb dX11_init_107 rfl (lv_at hl 0 rfl) ?_
  refine lv_sipush (v := 20001) hx hb dX11_init_108 (by decide) ?_
  refine mi_z (t0 := 16) (b' := 1601) (N := 20001) hx hb hown hu hE hnm hA hAa u866 hS ho hQ oc (by decide) (Nat.le_of_ble_eq_true rfl) u773 rfl rfl rfl ky16 (by decide) (by decide) (by decide) (fun _ => rfl) (by decide) rfl (by decide) (Nat.le_of_ble_eq_true rfl) (Nat.le_of_ble_eq_true rfl) dX11_init_111 dX11_init_113 (fun H1 locs1 q16 ho hQ oc hS => ?_)
  have ho : ob E a 12 [.int 0, .ref q1, .int 0, .ref q3, .ref q4, .ref q5, .ref q6, .ref q7, .ref q8, .ref q9, .ref q10, .int 0, .ref q12, .ref q13, .ref q14, .int 0, .ref q16, .null, .null, .null, .null, .null, .null, .int 0, .null, .null, .int 0, .null, .int 0, .null, .int 0, .null, .null, .null, .null, .int 0] H1 := ho
  refine lv_aload_n hx hb dX11_init_116 rfl (lv_at hl 0 rfl) ?_
  refine lv_bipush (v := 60) hx hb dX11_init_117 (by decide) ?_
  refine mi_i (t0 := 17) (b' := 1701) (N := 60) hx hb hown hu hE hnm hA hAa u41 hS ho hQ oc (by decide) (Nat.le_of_ble_eq_true rfl) u774 rfl rfl rfl ky17 (by decide) (by decide) (by decide) (fun _ => rfl) (by decide) rfl (by decide) (Nat.le_of_ble_eq_true rfl) (Nat.le_of_ble_eq_true rfl) dX11_init_119 dX11_init_121 (fun H1 locs1 q17 ho hQ oc hS => ?_)
  have ho : ob E a 12 [.int 0, .ref q1, .int 0, .ref q3, .ref q4, .ref q5, .ref q6, .ref q7, .ref q8, .ref q9, .ref q10, .int 0, .ref q12, .ref q13, .ref q14, .int 0, .ref q16, .ref q17, .null, .null, .null, .null, .null, .int 0, .null, .null, .int 0, .null, .int 0, .null, .int 0, .null, .null, .null, .null, .int 0] H1 := ho
  refine lv_aload_n hx hb dX11_init_124 rfl (lv_at hl 0 rfl) ?_
  refine lv_bipush (v := 60) hx hb dX11_init_125 (by decide) ?_
  refine mi_i (t0 := 18) (b' := 1801) (N := 60) hx hb hown hu hE hnm hA hAa u41 hS ho hQ oc (by decide) (Nat.le_of_ble_eq_true rfl) u775 rfl rfl rfl ky18 (by decide) (by decide) (by decide) (fun _ => rfl) (by decide) rfl (by decide) (Nat.le_of_ble_eq_true rfl) (Nat.le_of_ble_eq_true rfl) dX11_init_127 dX11_init_129 (fun H1 locs1 q18 ho hQ oc hS => ?_)
  have ho : ob E a 12 [.int 0, .ref q1, .int 0, .ref q3, .ref q4, .ref q5, .ref q6, .ref q7, .ref q8, .ref q9, .ref q10, .int 0, .ref q12, .ref q13, .ref q14, .int 0, .ref q16, .ref q17, .ref q18, .null, .null, .null, .null, .int 0, .null, .null, .int 0, .null, .int 0, .null, .int 0, .null, .null, .null, .null, .int 0] H1 := ho
  refine lv_aload_n hx hb dX11_init_132 rfl (lv_at hl 0 rfl) ?_
  refine lv_bipush (v := 60) hx hb dX11_init_133 (by decide) ?_
  refine mi_i (t0 := 19) (b' := 1901) (N := 60) hx hb hown hu hE hnm hA hAa u41 hS ho hQ oc (by decide) (Nat.le_of_ble_eq_true rfl) u776 rfl rfl rfl ky19 (by decide) (by decide) (by decide) (fun _ => rfl) (by decide) rfl (by decide) (Nat.le_of_ble_eq_true rfl) (Nat.le_of_ble_eq_true rfl) dX11_init_135 dX11_init_137 (fun H1 locs1 q19 ho hQ oc hS => ?_)
  have ho : ob E a 12 [.int 0, .ref q1, .int 0, .ref q3, .ref q4, .ref q5, .ref q6, .ref q7, .ref q8, .ref q9, .ref q10, .int 0, .ref q12, .ref q13, .ref q14, .int 0, .ref q16, .ref q17, .ref q18, .ref q19, .null, .null, .null, .int 0, .null, .null, .int 0, .null, .int 0, .null, .int 0, .null, .null, .null, .null, .int 0] H1 := ho
  refine lv_aload_n hx hb dX11_init_140 rfl (lv_at hl 0 rfl) ?_
  refine lv_bipush (v := 60) hx hb dX11_init_141 (by decide) ?_
  refine mi_i (t0 := 20) (b' := 2001) (N := 60) hx hb hown hu hE hnm hA hAa u41 hS ho hQ oc (by decide) (Nat.le_of_ble_eq_true rfl) u777 rfl rfl rfl ky20 (by decide) (by decide) (by decide) (fun _ => rfl) (by decide) rfl (by decide) (Nat.le_of_ble_eq_true rfl) (Nat.le_of_ble_eq_true rfl) dX11_init_143 dX11_init_145 (fun H1 locs1 q20 ho hQ oc hS => ?_)
  have ho : ob E a 12 [.int 0, .ref q1, .int 0, .ref q3, .ref q4, .ref q5, .ref q6, .ref q7, .ref q8, .ref q9, .ref q10, .int 0, .ref q12, .ref q13, .ref q14, .int 0, .ref q16, .ref q17, .ref q18, .ref q19, .ref q20, .null, .null, .int 0, .null, .null, .int 0, .null, .int 0, .null, .int 0, .null, .null, .null, .null, .int 0] H1 := ho
  refine lv_aload_n hx hb dX11_init_148 rfl (lv_at hl 0 rfl) ?_
  refine lv_bipush (v := 60) hx hb dX11_init_149 (by decide) ?_
  refine mi_i (t0 := 21) (b' := 2101) (N := 60) hx hb hown hu hE hnm hA hAa u41 hS ho hQ oc (by decide) (Nat.le_of_ble_eq_true rfl) u778 rfl rfl rfl ky21 (by decide) (by decide) (by decide) (fun _ => rfl) (by decide) rfl (by decide) (Nat.le_of_ble_eq_true rfl) (Nat.le_of_ble_eq_true rfl) dX11_init_151 dX11_init_153 (fun H1 locs1 q21 ho hQ oc hS => ?_)
  have ho : ob E a 12 [.int 0, .ref q1, .int 0, .ref q3, .ref q4, .ref q5, .ref q6, .ref q7, .ref q8, .ref q9, .ref q10, .int 0, .ref q12, .ref q13, .ref q14, .int 0, .ref q16, .ref q17, .ref q18, .ref q19, .ref q20, .ref q21, .null, .int 0, .null, .null, .int 0, .null, .int 0, .null, .int 0, .null, .null, .null, .null, .int 0] H1 := ho
  refine lv_aload_n hx hb dX11_init_156 rfl (lv_at hl 0 rfl) ?_
  refine lv_bipush (v := 60) hx hb dX11_init_157 (by decide) ?_
  refine mi_i (t0 := 22) (b' := 2201) (N := 60) hx hb hown hu hE hnm hA hAa u41 hS ho hQ oc (by decide) (Nat.le_of_ble_eq_true rfl) u779 rfl rfl rfl ky22 (by decide) (by decide) (by decide) (fun _ => rfl) (by decide) rfl (by decide) (Nat.le_of_ble_eq_true rfl) (Nat.le_of_ble_eq_true rfl) dX11_init_159 dX11_init_161 (fun H1 locs1 q22 ho hQ oc hS => ?_)
  have ho : ob E a 12 [.int 0, .ref q1, .int 0, .ref q3, .ref q4, .ref q5, .ref q6, .ref q7, .ref q8, .ref q9, .ref q10, .int 0, .ref q12, .ref q13, .ref q14, .int 0, .ref q16, .ref q17, .ref q18, .ref q19, .ref q20, .ref q21, .ref q22, .int 0, .null, .null, .int 0, .null, .int 0, .null, .int 0, .null, .null, .null, .null, .int 0] H1 := ho
  refine lv_aload_n hx hb dX11_init_164 rfl (lv_at hl 0 rfl) ?_
  refine lv_bipush (v := 60) hx hb dX11_init_165 (by decide) ?_
  refine mi_i (t0 := 24) (b' := 2401) (N := 60) hx hb hown hu hE hnm hA hAa u41 hS ho hQ oc (by decide) (Nat.le_of_ble_eq_true rfl) u781 rfl rfl rfl ky24 (by decide) (by decide) (by decide) (fun _ => rfl) (by decide) rfl (by decide) (Nat.le_of_ble_eq_true rfl) (Nat.le_of_ble_eq_true rfl) dX11_init_167 dX11_init_169 (fun H1 locs1 q24 ho hQ oc hS => ?_)
  have ho : ob E a 12 [.int 0, .ref q1, .int 0, .ref q3, .ref q4, .ref q5, .ref q6, .ref q7, .ref q8, .ref q9, .ref q10, .int 0, .ref q12, .ref q13, .ref q14, .int 0, .ref q16, .ref q17, .ref q18, .ref q19, .ref q20, .ref q21, .ref q22, .int 0, .ref q24, .null, .int 0, .null, .int 0, .null, .int 0, .null, .null, .null, .null, .int 0] H1 := ho
  refine lv_aload_n hx hb dX11_init_172 rfl (lv_at hl 0 rfl) ?_
  refine lv_bipush (v := 60) hx hb dX11_init_173 (by decide) ?_
  refine mi_i (t0 := 25) (b' := 2501) (N := 60) hx hb hown hu hE hnm hA hAa u41 hS ho hQ oc (by decide) (Nat.le_of_ble_eq_true rfl) u782 rfl rfl rfl ky25 (by decide) (by decide) (by decide) (fun _ => rfl) (by decide) rfl (by decide) (Nat.le_of_ble_eq_true rfl) (Nat.le_of_ble_eq_true rfl) dX11_init_175 dX11_init_177 (fun H1 locs1 q25 ho hQ oc hS => ?_)
  have ho : ob E a 12 [.int 0, .ref q1, .int 0, .ref q3, .ref q4, .ref q5, .ref q6, .ref q7, .ref q8, .ref q9, .ref q10, .int 0, .ref q12, .ref q13, .ref q14, .int 0, .ref q16, .ref q17, .ref q18, .ref q19, .ref q20, .ref q21, .ref q22, .int 0, .ref q24, .ref q25, .int 0, .null, .int 0, .null, .int 0, .null, .null, .null, .null, .int 0] H1 := ho
  refine lv_aload_n hx hb dX11_init_180 rfl (lv_at hl 0 rfl) ?_
  refine lv_bipush (v := 6) hx hb dX11_init_181 (by decide) ?_
  refine mi_i (t0 := 27) (b' := 2701) (N := 6) hx hb hown hu hE hnm hA hAa u41 hS ho hQ oc (by decide) (Nat.le_of_ble_eq_true rfl) u784 rfl rfl rfl ky27 (by decide) (by decide) (by decide) (fun _ => rfl) (by decide) rfl (by decide) (Nat.le_of_ble_eq_true rfl) (Nat.le_of_ble_eq_true rfl) dX11_init_183 dX11_init_185 (fun H1 locs1 q27 ho hQ oc hS => ?_)
  have ho : ob E a 12 [.int 0, .ref q1, .int 0, .ref q3, .ref q4, .ref q5, .ref q6, .ref q7, .ref q8, .ref q9, .ref q10, .int 0, .ref q12, .ref q13, .ref q14, .int 0, .ref q16, .ref q17, .ref q18, .ref q19, .ref q20, .ref q21, .ref q22, .int 0, .ref q24, .ref q25, .int 0, .ref q27, .int 0, .null, .int 0, .null, .null, .null, .null, .int 0] H1 := ho
  refine lv_aload_n hx hb dX11_init_188 rfl (lv_at hl 0 rfl) ?_
  refine lv_bipush (v := 60) hx hb dX11_init_189 (by decide) ?_
  refine lv_bipush (v := 8) hx hb dX11_init_191 (by decide) ?_
  refine mi_r (t0 := 29) (rb := 200) (b' := 3000) hx hb hown hu hE hO hnm hA hAa u41 u755 hS ho hQ oc (by decide) (Nat.le_of_ble_eq_true rfl) u786 rfl rfl rfl ky29 (by decide) (by decide) (by decide) rfl rfl (Nat.le_of_ble_eq_true rfl) (Nat.le_of_ble_eq_true rfl) dX11_init_193 dX11_init_197 (fun H1 locs1 q29 ho hQ oc hS => ?_)
  have ho : ob E a 12 [.int 0, .ref q1, .int 0, .ref q3, .ref q4, .ref q5, .ref q6, .ref q7, .ref q8, .ref q9, .ref q10, .int 0, .ref q12, .ref q13, .ref q14, .int 0, .ref q16, .ref q17, .ref q18, .ref q19, .ref q20, .ref q21, .ref q22, .int 0, .ref q24, .ref q25, .int 0, .ref q27, .int 0, .ref q29, .int 0, .null, .null, .null, .null, .int 0] H1 := ho
  refine lv_aload_n hx hb dX11_init_200 rfl (lv_at hl 0 rfl) ?_
  refine lv_bipush (v := 100) hx hb dX11_init_201 (by decide) ?_
  refine mi_i (t0 := 31) (b' := 3101) (N := 100) hx hb hown hu hE hnm hA hAa u41 hS ho hQ oc (by decide) (Nat.le_of_ble_eq_true rfl) u788 rfl rfl rfl ky31 (by decide) (by decide) (by decide) (fun _ => rfl) (by decide) rfl (by decide) (Nat.le_of_ble_eq_true rfl) (Nat.le_of_ble_eq_true rfl) dX11_init_203 dX11_init_205 (fun H1 locs1 q31 ho hQ oc hS => ?_)
  have ho : ob E a 12 [.int 0, .ref q1, .int 0, .ref q3, .ref q4, .ref q5, .ref q6, .ref q7, .ref q8, .ref q9, .ref q10, .int 0, .ref q12, .ref q13, .ref q14, .int 0, .ref q16, .ref q17, .ref q18, .ref q19, .ref q20, .ref q21, .ref q22, .int 0, .ref q24, .ref q25, .int 0, .ref q27, .int 0, .ref q29, .int 0, .ref q31, .null, .null, .null, .int 0] H1 := ho
  refine lv_aload_n hx hb dX11_init_208 rfl (lv_at hl 0 rfl) ?_
  refine lv_bipush (v := 100) hx hb dX11_init_209 (by decide) ?_
  refine mi_i (t0 := 32) (b' := 3201) (N := 100) hx hb hown hu hE hnm hA hAa u41 hS ho hQ oc (by decide) (Nat.le_of_ble_eq_true rfl) u789 rfl rfl rfl ky32 (by decide) (by decide) (by decide) (fun _ => rfl) (by decide) rfl (by decide) (Nat.le_of_ble_eq_true rfl) (Nat.le_of_ble_eq_true rfl) dX11_init_211 dX11_init_213 (fun H1 locs1 q32 ho hQ oc hS => ?_)
  have ho : ob E a 12 [.int 0, .ref q1, .int 0, .ref q3, .ref q4, .ref q5, .ref q6, .ref q7, .ref q8, .ref q9, .ref q10, .int 0, .ref q12, .ref q13, .ref q14, .int 0, .ref q16, .ref q17, .ref q18, .ref q19, .ref q20, .ref q21, .ref q22, .int 0, .ref q24, .ref q25, .int 0, .ref q27, .int 0, .ref q29, .int 0, .ref q31, .ref q32, .null, .null, .int 0] H1 := ho
  refine lv_aload_n hx hb dX11_init_216 rfl (lv_at hl 0 rfl) ?_
  refine lv_bipush (v := 100) hx hb dX11_init_217 (by decide) ?_
  refine mi_i (t0 := 33) (b' := 3301) (N := 100) hx hb hown hu hE hnm hA hAa u41 hS ho hQ oc (by decide) (Nat.le_of_ble_eq_true rfl) u790 rfl rfl rfl ky33 (by decide) (by decide) (by decide) (fun _ => rfl) (by decide) rfl (by decide) (Nat.le_of_ble_eq_true rfl) (Nat.le_of_ble_eq_true rfl) dX11_init_219 dX11_init_221 (fun H1 locs1 q33 ho hQ oc hS => ?_)
  have ho : ob E a 12 [.int 0, .ref q1, .int 0, .ref q3, .ref q4, .ref q5, .ref q6, .ref q7, .ref q8, .ref q9, .ref q10, .int 0, .ref q12, .ref q13, .ref q14, .int 0, .ref q16, .ref q17, .ref q18, .ref q19, .ref q20, .ref q21, .ref q22, .int 0, .ref q24, .ref q25, .int 0, .ref q27, .int 0, .ref q29, .int 0, .ref q31, .ref q32, .ref q33, .null, .int 0] H1 := ho
  refine lv_aload_n hx hb dX11_init_224 rfl (lv_at hl 0 rfl) ?_
  refine lv_bipush (v := 100) hx hb dX11_init_225 (by decide) ?_
  refine mi_i (t0 := 34) (b' := 4000) (N := 100) hx hb hown hu hE hnm hA hAa u41 hS ho hQ oc (by decide) (Nat.le_of_ble_eq_true rfl) u791 rfl rfl rfl ky34 (by decide) (by decide) (by decide) (fun _ => rfl) (by decide) rfl (by decide) (Nat.le_of_ble_eq_true rfl) (Nat.le_of_ble_eq_true rfl) dX11_init_227 dX11_init_229 (fun H1 locs1 q34 ho hQ oc hS => ?_)
  have ho : ob E a 12 [.int 0, .ref q1, .int 0, .ref q3, .ref q4, .ref q5, .ref q6, .ref q7, .ref q8, .ref q9, .ref q10, .int 0, .ref q12, .ref q13, .ref q14, .int 0, .ref q16, .ref q17, .ref q18, .ref q19, .ref q20, .ref q21, .ref q22, .int 0, .ref q24, .ref q25, .int 0, .ref q27, .int 0, .ref q29, .int 0, .ref q31, .ref q32, .ref q33, .ref q34, .int 0] H1 := ho
  exact ct_rv hx hb hr hlocks hS ⟨rfl, ⟨_, rfl, md_init (M := (mU (mU (mU (mU (mR (mU (mU (mU (mU (mU (mU (mU (mU (mU (mU (mU (mU (mU (mU (mU (mU (mU (mU (mU (mU (mU (mR (fun _ => a) 1 100 q1) 3 q3) 4 q4) 5 q5) 6 q6) 7 q7) 8 q8) 9 q9) 10 q10) 12 q12) 13 q13) 14 q14) 16 q16) 17 q17) 18 q18) 19 q19) 20 q20) 21 q21) 22 q22) 24 q24) 25 q25) 27 q27) 29 200 q29) 31 q31) 32 q32) 33 q33) 34 q34)) hQ rfl hAa ho⟩, oc⟩ (Nat.le_of_ble_eq_true rfl) (Nat.le_of_ble_eq_true rfl) dX11_init_232
