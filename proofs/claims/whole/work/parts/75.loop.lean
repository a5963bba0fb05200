set_option maxHeartbeats 4000000 in
theorem law_loop {p : Program} {l : Launch} {e : Env} {s : State} {m : MethodId} {below : List Frame} {meth : Method} {c : Code} {b Ln x y : Nat} {xs : Nat → Int32} {E : EV} {M : Nat → Nat} (hx : p.tables.exec = Jvm.exec) (hb : c.code = code) (hml : c.maxLocals = 4) (hown : s.vm.findClass R_law = some m.cls) (hu : ∀ w ∈ uw, w.before #[Value.ref b] s = true) (hE : evK E s) (hZ : evZ E (fun q => s.heap.size ≤ q) s s.heap) (hX : va_X b Ln xs s s.heap) (hbl : b < s.heap.size) (hLn : Ln ≤ 2560) (hr : meth.sig.returnType = ret) (hlocks : meth.locks = false) : ∀ (f i : Nat), i + f = 513 → lwIH p l e s m below meth c b x y E M i := by
  intro f
  induction f with
  | zero =>
    intro i hi H locs hLI hS ls hl
    have hbA : ¬ s.heap.size ≤ b := by omega
    refine lv_iload_n hx hb dL_law_18 rfl (lv_at hl 3 rfl) ?_
    refine lv_aload_n hx hb dL_law_19 rfl (lv_at hl 0 rfl) ?_
    refine va_slen hx hb hX hbl hbA hS dL_law_20 ?_
    refine lv_iconst (v := 5) hx hb dL_law_21 (by decide) ?_
    refine lv_isub hx hb dL_law_22 ?_
    have e1 : (Int32.ofNat Ln - 5).toInt = (Ln : Int) - 5 := by
      have e2 : (Int32.ofNat Ln).toInt = (Ln : Int) := nI_toInt (n := Ln) (by omega)
      have e3 : (5 : Int32).toInt = 5 := rfl
      rw [i_sub (by omega) (by omega), e2, e3]
    have e4 : (nI (5 * i)).toInt = ((5 * i : Nat) : Int) := nI_toInt (by omega)
    refine lv_icmp_gt (tgt := 975) hx hb dL_law_23 (by decide) (fun cg => ?_) (fun cg => ?_)
    · refine lv_iconst (v := 1) hx hb dL_law_975 (by decide) ?_
      refine va_forget (fun q hq => hS.2.2 q hq) ?_
      refine W.widen (k := 600000) (n := 7302250) (by omega) (by omega) ?_
      exact lw_ret hx hb hr hlocks dL_law_976
    · exfalso
      rw [i_lt] at cg
      omega
  | succ f ih0 =>
    intro i hi H locs hLI hS ls hl
    have ih := ih0 (i + 1) (by omega)
    have hbA : ¬ s.heap.size ≤ b := by omega
    refine lv_iload_n hx hb dL_law_18 rfl (lv_at hl 3 rfl) ?_
    refine lv_aload_n hx hb dL_law_19 rfl (lv_at hl 0 rfl) ?_
    refine va_slen hx hb hX hbl hbA hS dL_law_20 ?_
    refine lv_iconst (v := 5) hx hb dL_law_21 (by decide) ?_
    refine lv_isub hx hb dL_law_22 ?_
    have e1 : (Int32.ofNat Ln - 5).toInt = (Ln : Int) - 5 := by
      have e2 : (Int32.ofNat Ln).toInt = (Ln : Int) := nI_toInt (n := Ln) (by omega)
      have e3 : (5 : Int32).toInt = 5 := rfl
      rw [i_sub (by omega) (by omega), e2, e3]
    have e4 : (nI (5 * i)).toInt = ((5 * i : Nat) : Int) := nI_toInt (by omega)
    refine lv_icmp_gt (tgt := 975) hx hb dL_law_23 (by decide) (fun cg => ?_) (fun cg => ?_)
    · refine lv_iconst (v := 1) hx hb dL_law_975 (by decide) ?_
      refine va_forget (fun q hq => hS.2.2 q hq) ?_
      refine W.widen (k := 600000) (n := 7302250) (by omega) (by omega) ?_
      exact lw_ret hx hb hr hlocks dL_law_976
    · rw [i_lt] at cg
      have h5 : 5 * i + 5 ≤ Ln := by omega
      refine lv_aload_n hx hb dL_law_26 rfl (lv_at hl 0 rfl) ?_
      refine lv_iload_n hx hb dL_law_27 rfl (lv_at hl 3 rfl) ?_
      refine va_sld hx hb hX hbl hbA hS (vp_in_nI (N := Ln) (by omega) (by omega)) dL_law_28 ?_
      refine lv_bipush (v := 31) hx hb dL_law_29 (by decide) ?_
      refine lv_iand hx hb dL_law_31 ?_
      generalize hw : xs (nI (5 * i)).toNatClampNeg &&& 31 = w
      by_cases c0 : w = 0
      · refine lv_tableIn (tgt := 148) (off := 116) hx hb dL_law_32 (by rw [c0]; decide) (by rw [c0]; decide) (by rw [c0]; rfl) (by decide) ?_
        exact law_k0 hx hb hml hown hu hE hZ hX hbl hLn h5 ih hLI hS hl
      by_cases c1 : w = 1
      · refine lv_tableIn (tgt := 201) (off := 169) hx hb dL_law_32 (by rw [c1]; decide) (by rw [c1]; decide) (by rw [c1]; rfl) (by decide) ?_
        exact law_k1 hx hb hml hown hu hE hZ hX hbl hLn h5 ih hLI hS hl
      by_cases c2 : w = 2
      · refine lv_tableIn (tgt := 254) (off := 222) hx hb dL_law_32 (by rw [c2]; decide) (by rw [c2]; decide) (by rw [c2]; rfl) (by decide) ?_
        exact law_k2 hx hb hml hown hu hE hZ hX hbl hLn h5 ih hLI hS hl
      by_cases c3 : w = 3
      · refine lv_tableIn (tgt := 297) (off := 265) hx hb dL_law_32 (by rw [c3]; decide) (by rw [c3]; decide) (by rw [c3]; rfl) (by decide) ?_
        exact law_k3 hx hb hml hown hu hE hZ hX hbl hLn h5 ih hLI hS hl
      by_cases c4 : w = 4
      · refine lv_tableIn (tgt := 320) (off := 288) hx hb dL_law_32 (by rw [c4]; decide) (by rw [c4]; decide) (by rw [c4]; rfl) (by decide) ?_
        exact law_k4 hx hb hml hown hu hE hZ hX hbl hLn h5 ih hLI hS hl
      by_cases c5 : w = 5
      · refine lv_tableIn (tgt := 343) (off := 311) hx hb dL_law_32 (by rw [c5]; decide) (by rw [c5]; decide) (by rw [c5]; rfl) (by decide) ?_
        exact law_k5 hx hb hml hown hu hE hZ hX hbl hLn h5 ih hLI hS hl
      by_cases c6 : w = 6
      · refine lv_tableIn (tgt := 376) (off := 344) hx hb dL_law_32 (by rw [c6]; decide) (by rw [c6]; decide) (by rw [c6]; rfl) (by decide) ?_
        exact law_k6 hx hb hml hown hu hE hZ hX hbl hLn h5 ih hLI hS hl
      by_cases c7 : w = 7
      · refine lv_tableIn (tgt := 419) (off := 387) hx hb dL_law_32 (by rw [c7]; decide) (by rw [c7]; decide) (by rw [c7]; rfl) (by decide) ?_
        exact law_k7 hx hb hml hown hu hE hZ hX hbl hLn h5 ih hLI hS hl
      by_cases c8 : w = 8
      · refine lv_tableIn (tgt := 452) (off := 420) hx hb dL_law_32 (by rw [c8]; decide) (by rw [c8]; decide) (by rw [c8]; rfl) (by decide) ?_
        exact law_k8 hx hb hml hown hu hE hZ hX hbl hLn h5 ih hLI hS hl
      by_cases c9 : w = 9
      · refine lv_tableIn (tgt := 475) (off := 443) hx hb dL_law_32 (by rw [c9]; decide) (by rw [c9]; decide) (by rw [c9]; rfl) (by decide) ?_
        exact law_k9 hx hb hml hown hu hE hZ hX hbl hLn h5 ih hLI hS hl
      by_cases c10 : w = 10
      · refine lv_tableIn (tgt := 508) (off := 476) hx hb dL_law_32 (by rw [c10]; decide) (by rw [c10]; decide) (by rw [c10]; rfl) (by decide) ?_
        exact law_k10 hx hb hml hown hu hE hZ hX hbl hLn h5 ih hLI hS hl
      by_cases c11 : w = 11
      · refine lv_tableIn (tgt := 531) (off := 499) hx hb dL_law_32 (by rw [c11]; decide) (by rw [c11]; decide) (by rw [c11]; rfl) (by decide) ?_
        exact law_k11 hx hb hml hown hu hE hZ hX hbl hLn h5 ih hLI hS hl
      by_cases c12 : w = 12
      · refine lv_tableIn (tgt := 554) (off := 522) hx hb dL_law_32 (by rw [c12]; decide) (by rw [c12]; decide) (by rw [c12]; rfl) (by decide) ?_
        exact law_k12 hx hb hml hown hu hE hZ hX hbl hLn h5 ih hLI hS hl
      by_cases c13 : w = 13
      · refine lv_tableIn (tgt := 603) (off := 571) hx hb dL_law_32 (by rw [c13]; decide) (by rw [c13]; decide) (by rw [c13]; rfl) (by decide) ?_
        exact law_k13 hx hb hml hown hu hE hZ hX hbl hLn h5 ih hLI hS hl
      by_cases c14 : w = 14
      · refine lv_tableIn (tgt := 626) (off := 594) hx hb dL_law_32 (by rw [c14]; decide) (by rw [c14]; decide) (by rw [c14]; rfl) (by decide) ?_
        exact law_k14 hx hb hml hown hu hE hZ hX hbl hLn h5 ih hLI hS hl
      by_cases c15 : w = 15
      · refine lv_tableIn (tgt := 669) (off := 637) hx hb dL_law_32 (by rw [c15]; decide) (by rw [c15]; decide) (by rw [c15]; rfl) (by decide) ?_
        exact law_k15 hx hb hml hown hu hE hZ hX hbl hLn h5 ih hLI hS hl
      by_cases c16 : w = 16
      · refine lv_tableIn (tgt := 692) (off := 660) hx hb dL_law_32 (by rw [c16]; decide) (by rw [c16]; decide) (by rw [c16]; rfl) (by decide) ?_
        exact law_k16 hx hb hml hown hu hE hZ hX hbl hLn h5 ih hLI hS hl
      by_cases c17 : w = 17
      · refine lv_tableIn (tgt := 715) (off := 683) hx hb dL_law_32 (by rw [c17]; decide) (by rw [c17]; decide) (by rw [c17]; rfl) (by decide) ?_
        exact law_k17 hx hb hml hown hu hE hZ hX hbl hLn h5 ih hLI hS hl
      by_cases c18 : w = 18
      · refine lv_tableIn (tgt := 738) (off := 706) hx hb dL_law_32 (by rw [c18]; decide) (by rw [c18]; decide) (by rw [c18]; rfl) (by decide) ?_
        exact law_k18 hx hb hml hown hu hE hZ hX hbl hLn h5 ih hLI hS hl
      by_cases c19 : w = 19
      · refine lv_tableIn (tgt := 781) (off := 749) hx hb dL_law_32 (by rw [c19]; decide) (by rw [c19]; decide) (by rw [c19]; rfl) (by decide) ?_
        exact law_k19 hx hb hml hown hu hE hZ hX hbl hLn h5 ih hLI hS hl
      by_cases c20 : w = 20
      · refine lv_tableIn (tgt := 824) (off := 792) hx hb dL_law_32 (by rw [c20]; decide) (by rw [c20]; decide) (by rw [c20]; rfl) (by decide) ?_
        exact law_k20 hx hb hml hown hu hE hZ hX hbl hLn h5 ih hLI hS hl
      by_cases c21 : w = 21
      · refine lv_tableIn (tgt := 867) (off := 835) hx hb dL_law_32 (by rw [c21]; decide) (by rw [c21]; decide) (by rw [c21]; rfl) (by decide) ?_
        exact law_k21 hx hb hml hown hu hE hZ hX hbl hLn h5 ih hLI hS hl
      by_cases c22 : w = 22
      · refine lv_tableIn (tgt := 890) (off := 858) hx hb dL_law_32 (by rw [c22]; decide) (by rw [c22]; decide) (by rw [c22]; rfl) (by decide) ?_
        exact law_k22 hx hb hml hown hu hE hZ hX hbl hLn h5 ih hLI hS hl
      by_cases c23 : w = 23
      · refine lv_tableIn (tgt := 923) (off := 891) hx hb dL_law_32 (by rw [c23]; decide) (by rw [c23]; decide) (by rw [c23]; rfl) (by decide) ?_
        exact law_k23 hx hb hml hown hu hE hZ hX hbl hLn h5 ih hLI hS hl
      by_cases c24 : w = 24
      · refine lv_tableIn (tgt := 946) (off := 914) hx hb dL_law_32 (by rw [c24]; decide) (by rw [c24]; decide) (by rw [c24]; rfl) (by decide) ?_
        exact law_k24 hx hb hml hown hu hE hZ hX hbl hLn h5 ih hLI hS hl
      have hsw : w.toInt < 0 ∨ 24 < w.toInt := by
        simp only [i_eq] at c0 c1 c2 c3 c4 c5 c6 c7 c8 c9 c10 c11 c12 c13 c14 c15 c16 c17 c18 c19 c20 c21 c22 c23 c24
        have ec0 : (0 : Int32).toInt = 0 := rfl; have ec1 : (1 : Int32).toInt = 1 := rfl; have ec2 : (2 : Int32).toInt = 2 := rfl; have ec3 : (3 : Int32).toInt = 3 := rfl; have ec4 : (4 : Int32).toInt = 4 := rfl; have ec5 : (5 : Int32).toInt = 5 := rfl; have ec6 : (6 : Int32).toInt = 6 := rfl; have ec7 : (7 : Int32).toInt = 7 := rfl; have ec8 : (8 : Int32).toInt = 8 := rfl; have ec9 : (9 : Int32).toInt = 9 := rfl; have ec10 : (10 : Int32).toInt = 10 := rfl; have ec11 : (11 : Int32).toInt = 11 := rfl; have ec12 : (12 : Int32).toInt = 12 := rfl; have ec13 : (13 : Int32).toInt = 13 := rfl; have ec14 : (14 : Int32).toInt = 14 := rfl; have ec15 : (15 : Int32).toInt = 15 := rfl; have ec16 : (16 : Int32).toInt = 16 := rfl; have ec17 : (17 : Int32).toInt = 17 := rfl; have ec18 : (18 : Int32).toInt = 18 := rfl; have ec19 : (19 : Int32).toInt = 19 := rfl; have ec20 : (20 : Int32).toInt = 20 := rfl; have ec21 : (21 : Int32).toInt = 21 := rfl; have ec22 : (22 : Int32).toInt = 22 := rfl; have ec23 : (23 : Int32).toInt = 23 := rfl; have ec24 : (24 : Int32).toInt = 24 := rfl; omega
      refine lv_tableOut (tgt := 969) hx hb dL_law_32 hsw (by decide) ?_
      exact law_next hx hb hml hown hu hE hZ hX hbl hLn h5 ih ⟨by omega, by omega⟩ hLI hS hl
