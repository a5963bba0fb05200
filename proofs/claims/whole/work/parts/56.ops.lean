/-! EACH CALL: the same answer, the same numbers, and what the numbers keep to stays -/
def eqM (τ σ : St) : Prop := ∀ t, t < 90 ∨ (100 ≤ t ∧ t < 400) → τ t = σ t
def OpOK (k m : Int32 × St) : Prop := k.1 = m.1 ∧ eqM k.2 m.2 ∧ Inv k.2
theorem op_same {σ : St} {x : Int32} (h : Inv σ) : OpOK (x, σ) (x, σ) := ⟨rfl, fun _ _ => rfl, h⟩
def cntTag (t : Nat) : Prop := t = 0 ∨ t = 2 ∨ t = 11 ∨ t = 15 ∨ t = 23 ∨ t = 26 ∨ t = 28 ∨ t = 30 ∨ t = 35
def capN (t : Nat) : Int := if t = 0 then 20000 else if t = 11 then 40 else if t = 15 then 200 else if t = 28 then 6 else if t = 35 then 100 else 60
theorem bnd_all {σ : St} (h : InvM σ) (t : Nat) (ht : cntTag t) : bnd (σ t 0) (capN t) := by
  obtain ⟨b0, b2, b11, b15, b23, b26, b28, b30, b35⟩ := h.1
  rcases ht with rfl | rfl | rfl | rfl | rfl | rfl | rfl | rfl | rfl
  · exact b0
  · exact b2
  · exact b11
  · exact b15
  · exact b23
  · exact b26
  · exact b28
  · exact b30
  · exact b35
theorem bnds_of {τ : St} (h : ∀ t, cntTag t → bnd (τ t 0) (capN t)) : bnd (τ 0 0) 20000 ∧ bnd (τ 2 0) 60 ∧ bnd (τ 11 0) 40 ∧ bnd (τ 15 0) 200 ∧ bnd (τ 23 0) 60 ∧ bnd (τ 26 0) 60 ∧ bnd (τ 28 0) 6 ∧ bnd (τ 30 0) 60 ∧ bnd (τ 35 0) 100 :=
  ⟨h 0 (by unfold cntTag; omega), h 2 (by unfold cntTag; omega), h 11 (by unfold cntTag; omega), h 15 (by unfold cntTag; omega), h 23 (by unfold cntTag; omega), h 26 (by unfold cntTag; omega), h 28 (by unfold cntTag; omega), h 30 (by unfold cntTag; omega), h 35 (by unfold cntTag; omega)⟩
/-- a count of no rows of its own is raised -/
theorem invM_c {σ τ : St} (h : InvM σ) (hb : ∀ t, cntTag t → bnd (τ t 0) (capN t)) (e : ∀ k, k = 6 ∨ k = 7 ∨ k = 10 ∨ k = 11 ∨ k = 17 ∨ k = 18 ∨ k = 19 ∨ k = 23 ∨ k = 30 ∨ (200 ≤ k ∧ k < 400) → τ k = σ k) : InvM τ := by
  have h30 := cnt_le (N := 60) h.1.2.2.2.2.2.2.2.1
  have e6 := e 6 (by omega); have e7 := e 7 (by omega); have e10 := e 10 (by omega); have e11 := e 11 (by omega); have e17 := e 17 (by omega); have e18 := e 18 (by omega); have e19 := e 19 (by omega); have e23 := e 23 (by omega); have e30 := e 30 (by omega)
  have n30 : nn τ 30 = nn σ 30 := by unfold nn; rw [e30]
  refine ⟨bnds_of hb, ?_, ?_, fun i hi => ?_⟩
  · have := h.2.1
    simp only [okP, okPN, nn, e6, e7, e10, e11] at this ⊢
    exact this
  · have := h.2.2.1
    simp only [okP, nn, e11, e17, e18, e19, e23] at this ⊢
    exact this
  · rw [n30] at hi
    have := h.2.2.2 i hi
    rw [e (200 + i) (by omega)]
    unfold okP
    rw [e11]
    exact this
theorem full_eq {x N : Int32} {M : Int} (h : bnd x M) (hN : N.toInt = M) : (!decide (x < N)) = decide (x = N) := by
  rw [← decide_not]
  apply decide_eq_decide.mpr
  rw [i_lt, i_eq]
  have := h.2
  omega
theorem lt_succ {x a b : Int32} (h : b.toInt = a.toInt + 1) : (!decide (x < b)) = decide (a < x) := by
  rw [← decide_not]
  apply decide_eq_decide.mpr
  rw [i_lt, i_lt]
  omega
theorem add1sub {x : Int32} : x + 1 - 1 = x := by
  rw [Int32.sub_eq_add_neg, Int32.add_assoc]
  exact Int32.add_zero x
theorem notfull {x N : Int32} {M : Int} (h : bnd x M) (hN : N.toInt = M) (e : decide (x = N) = false) : x < N := by
  have e := decide_eq_false_iff_not.mp e
  rw [i_eq] at e
  rw [i_lt]
  have := h.2
  omega
section OPS
variable {σ : St}
/-! go -/
theorem go_eq {n : Int32} (h : Inv σ) : OpOK (k_go σ n) (m_go σ n) := by
  have hh := h
  obtain ⟨hI, h2, h3, h4, h5, h6, h7, h8, h9, h10, h11, h12, h13⟩ := hh
  unfold k_go m_go m_in
  have eb : (!(!decide (n < 0) && !decide (400 < n))) = (decide (n < 0) || decide (400 < n)) := by cases decide (n < 0) <;> cases decide (400 < n) <;> rfl
  have em : m_min (σ 0 0 + n) 20000 = m_min 20000 (σ 0 0 + n) := by
    unfold m_min
    by_cases c1 : 20000 < σ 0 0 + n
    · rw [if_pos c1, if_neg (by rw [i_lt] at c1 ⊢; omega)]
    · rw [if_neg c1]
      by_cases c2 : σ 0 0 + n < 20000
      · rw [if_pos c2]
      · rw [if_neg c2, i_eq]
        rw [i_lt] at c1 c2
        omega
  rw [eb, em]
  cases hb : (decide (n < 0) || decide (400 < n))
  · simp only [Bool.or_eq_false_iff, decide_eq_false_iff_not, i_lt] at hb
    have e0 : (0 : Int32).toInt = 0 := rfl
    have e4 : (400 : Int32).toInt = 400 := rfl
    have e2 : (20000 : Int32).toInt = 20000 := rfl
    have b0 := hI.1.1
    have b1 := b0.1
    have b2 := b0.2
    have ea : (σ 0 0 + n).toInt = (σ 0 0).toInt + n.toInt := i_add (by omega) (by omega)
    have hx : (σ 0 0).toInt ≤ (m_min 20000 (σ 0 0 + n)).toInt ∧ (m_min 20000 (σ 0 0 + n)).toInt ≤ 20000 := by
      unfold m_min
      by_cases c : σ 0 0 + n < 20000
      · rw [if_pos c]
        rw [i_lt] at c
        omega
      · rw [if_neg c]
        omega
    generalize m_min 20000 (σ 0 0 + n) = x at hx
    have at_ : ∀ k, k ≠ 0 → sA σ 0 0 x k = σ k := fun k hk => sA_ne hk
    refine ⟨rfl, fun _ _ => rfl, ?_⟩
    exact ⟨invM_c hI (fun t ht => by
        by_cases e : t = 0
        · subst e
          show bnd (sA σ 0 0 x 0 0) _
          rw [sA_me]
          exact ⟨by omega, hx.2⟩
        · show bnd (sA σ 0 0 x t 0) _
          rw [at_ t e]; exact bnd_all hI t ht) (fun k hk => at_ k (by omega)),
      invL_of h2 (fun k hk => at_ k (by omega)) (cnt_le (N := 60) hI.1.2.1), invP_of h3 (fun k hk => at_ k (by omega)), invJ_of h4 (fun k hk => at_ k (by omega)), invZ_of h5 (fun k hk => at_ k (by omega)), invQ_of h6 (fun k hk => at_ k (by omega)), invK_of h7 (fun k hk => at_ k (by omega)), invO_of h8 (fun k hk => at_ k (by omega)),
      fun i hi => ⟨(h9 i hi).1, by
        show (σ 19 i).toInt ≤ (sA σ 0 0 x 0 0).toInt
        rw [sA_me]
        have := (h9 i hi).2
        omega⟩, invF_of h10 (at_ 16 (by omega)), invW_of h11 (fun k hk => at_ k (by omega)), invN_of hI h12 (fun k hk => at_ k (by omega)), invB_of h13 (fun k hk => at_ k (by omega))⟩
  · exact op_same h
/-! feast -/
theorem feast_eq {d : Int32} (h : Inv σ) : OpOK (k_feast σ d) (m_feast σ d) := by
  have hh := h
  obtain ⟨hI, h2, h3, h4, h5, h6, h7, h8, h9, h10, h11, h12, h13⟩ := hh
  unfold k_feast m_feast
  cases hb : (!m_in d 0 20000 || !m_isFree σ d)
  · have hb2 := hb
    simp only [Bool.or_eq_false_iff, Bool.not_eq_false'] at hb2
    have hd := okD_of hb2.1
    obtain ⟨d1, d2⟩ := okD_n' hd
    have at_ : ∀ k, k ≠ 16 → sA σ 16 d.toNatClampNeg 1 k = σ k := fun k hk => sA_ne hk
    refine ⟨rfl, fun _ _ => rfl, ?_⟩
    refine ⟨invM_tag hI (by omega), invL_of h2 (fun k hk => at_ k (by omega)) (cnt_le (N := 60) hI.1.2.1), invP_of h3 (fun k hk => at_ k (by omega)), invJ_of h4 (fun k hk => at_ k (by omega)), invZ_of h5 (fun k hk => at_ k (by omega)), invQ_of h6 (fun k hk => at_ k (by omega)), invK_of h7 (fun k hk => at_ k (by omega)), invO_of h8 (fun k hk => at_ k (by omega)), invD_of h9 (fun k hk => at_ k (by omega)), fun e he => ?_, invW_of h11 (fun k hk => at_ k (by omega)), invN_of hI h12 (fun k hk => at_ k (by omega)), invB_of h13 (fun k hk => at_ k (by omega))⟩
    by_cases c : e = d.toNatClampNeg
    · refine Or.inr ?_
      have hf := hb2.2
      have : fr_ σ e = true := by
        unfold fr_
        rw [c, ← d2]
        exact hf
      rw [fr_eq (by omega)] at this
      simp only [Bool.and_eq_true, Bool.not_eq_true', decide_eq_false_iff_not] at this
      exact this.1
    · show sA σ 16 d.toNatClampNeg 1 16 e = 0 ∨ _
      rw [sA_at c]
      exact h10 e he
  · exact op_same h
/-! part -/
theorem part_eq {p : Int32} (h : Inv σ) : OpOK (k_part σ p) (m_part σ p) := by
  have hh := h
  obtain ⟨hI, h2, h3, h4, h5, h6, h7, h8, h9, h10, h11, h12, h13⟩ := hh
  unfold k_part m_part m_paBad
  cases hb : (!m_isP σ p || decide (gA σ 10 p = -1))
  · have at_ : ∀ k, k ≠ 10 → m_paS σ p k = σ k := fun k hk => by unfold m_paS; rw [sA_ne hk, sA_ne hk]
    refine ⟨rfl, fun _ _ => rfl, ?_⟩
    exact ⟨invM_10 (invM_10 hI (Or.inl rfl)) (Or.inl rfl), invL_of h2 (fun k hk => at_ k (by omega)) (cnt_le (N := 60) hI.1.2.1), invP_of h3 (fun k hk => at_ k (by omega)), invJ_of h4 (fun k hk => at_ k (by omega)), invZ_of h5 (fun k hk => at_ k (by omega)), invQ_of h6 (fun k hk => at_ k (by omega)), invK_of h7 (fun k hk => at_ k (by omega)), invO_of h8 (fun k hk => at_ k (by omega)), invD_of h9 (fun k hk => at_ k (by omega)), invF_of h10 (at_ 16 (by omega)), invW_of h11 (fun k hk => at_ k (by omega)), invN_of hI h12 (fun k hk => at_ k (by omega)), invB_of h13 (fun k hk => at_ k (by omega))⟩
  · exact op_same h
/-! correct -/
theorem correct_eq {e f v : Int32} (h : Inv σ) : OpOK (k_correct σ e f v) (m_correct σ e f v) := by
  have hh := h
  obtain ⟨hI, h2, h3, h4, h5, h6, h7, h8, h9, h10, h11, h12, h13⟩ := hh
  have eb : c_coBad σ e f v = m_coBad σ e f v := by
    unfold c_coBad m_coBad m_in
    rw [lt_succ (a := 4) (b := 5) rfl, full_eq hI.1.2.2.2.2.2.2.2.2 rfl]
    simp only [Bool.not_and, Bool.not_not, Bool.or_assoc]
  unfold k_correct m_correct
  rw [eb]
  cases hb : m_coBad σ e f v
  · unfold m_coBad at hb
    simp only [Bool.or_eq_false_iff] at hb
    have at_ : ∀ k, k < 31 ∨ 35 < k → m_coS σ e f v k = σ k := fun k hk => by unfold m_coS; rw [sA_ne (by omega), sA_ne (by omega), sA_ne (by omega), sA_ne (by omega), sA_ne (by omega)]
    refine ⟨rfl, fun _ _ => rfl, ?_⟩
    exact ⟨invM_c hI (fun t ht => by
        by_cases c : t = 35
        · subst c
          show bnd (m_coS σ e f v 35 0) 100
          unfold m_coS
          rw [sA_me]
          exact bnd_inc hI.1.2.2.2.2.2.2.2.2 (notfull hI.1.2.2.2.2.2.2.2.2 rfl hb.2) (by decide) (by decide)
        · show bnd (m_coS σ e f v t 0) _
          rw [at_ t (by unfold cntTag at ht; omega)]; exact bnd_all hI t ht) (fun k hk => at_ k (by omega)),
      invL_of h2 (fun k hk => at_ k (by omega)) (cnt_le (N := 60) hI.1.2.1), invP_of h3 (fun k hk => at_ k (by omega)), invJ_of h4 (fun k hk => at_ k (by omega)), invZ_of h5 (fun k hk => at_ k (by omega)), invQ_of h6 (fun k hk => at_ k (by omega)), invK_of h7 (fun k hk => at_ k (by omega)), invO_of h8 (fun k hk => at_ k (by omega)), invD_of h9 (fun k hk => at_ k (by omega)), invF_of h10 (at_ 16 (by omega)), invW_of h11 (fun k hk => at_ k (by omega)), invN_of hI h12 (fun k hk => at_ k (by omega)), invB_of h13 (fun k hk => at_ k (by omega))⟩
  · exact op_same h
/-! registrar -/
theorem registrar_eq {t : Int32} (h : Inv σ) : OpOK (k_registrar σ t) (m_registrar σ t) := by
  have hh := h
  obtain ⟨hI, h2, h3, h4, h5, h6, h7, h8, h9, h10, h11, h12, h13⟩ := hh
  have eb : (decide (t < 0) || (decide (31 < t) || !decide (σ 28 0 < 6))) = m_reBad σ t := by
    unfold m_reBad m_in
    rw [full_eq hI.1.2.2.2.2.2.2.1 rfl]
    simp only [Bool.not_and, Bool.not_not, Bool.or_assoc]
  unfold k_registrar m_registrar
  rw [eb]
  cases hb : m_reBad σ t
  · unfold m_reBad at hb
    simp only [Bool.or_eq_false_iff] at hb
    have at_ : ∀ k, k ≠ 27 ∧ k ≠ 28 → m_reS σ t k = σ k := fun k hk => by unfold m_reS; rw [sA_ne hk.2, sA_ne hk.1]
    refine ⟨add1sub.symm, fun _ _ => rfl, ?_⟩
    exact ⟨invM_c hI (fun u ht => by
        by_cases c : u = 28
        · subst c
          show bnd (m_reS σ t 28 0) 6
          unfold m_reS
          rw [sA_me]
          exact bnd_inc hI.1.2.2.2.2.2.2.1 (notfull hI.1.2.2.2.2.2.2.1 rfl hb.2) (by decide) (by decide)
        · show bnd (m_reS σ t u 0) _
          rw [at_ u (by unfold cntTag at ht; omega)]; exact bnd_all hI u ht) (fun k hk => at_ k (by omega)),
      invL_of h2 (fun k hk => at_ k (by omega)) (cnt_le (N := 60) hI.1.2.1), invP_of h3 (fun k hk => at_ k (by omega)), invJ_of h4 (fun k hk => at_ k (by omega)), invZ_of h5 (fun k hk => at_ k (by omega)), invQ_of h6 (fun k hk => at_ k (by omega)), invK_of h7 (fun k hk => at_ k (by omega)), invO_of h8 (fun k hk => at_ k (by omega)), invD_of h9 (fun k hk => at_ k (by omega)), invF_of h10 (at_ 16 (by omega)), invW_of h11 (fun k hk => at_ k (by omega)), invN_of hI h12 (fun k hk => at_ k (by omega)), invB_of h13 (fun k hk => at_ k (by omega))⟩
  · exact op_same h
/-! law -/
theorem law_eq {ld dy wt nt : Int32} (h : Inv σ) : OpOK (k_law σ ld dy wt nt) (m_law σ ld dy wt nt) := by
  have hh := h
  obtain ⟨hI, h2, h3, h4, h5, h6, h7, h8, h9, h10, h11, h12, h13⟩ := hh
  have eb : c_lawBad σ ld dy wt nt = m_lawBad σ ld dy wt nt := by
    unfold c_lawBad m_lawBad c_lcb m_in
    rw [lt_succ (a := 5) (b := 6) rfl, full_eq hI.1.2.1 rfl]
    simp only [Bool.not_and, Bool.not_not, Bool.or_assoc]
  unfold k_law m_law
  rw [eb]
  cases hb : m_lawBad σ ld dy wt nt
  · unfold m_lawBad at hb
    simp only [Bool.or_eq_false_iff, Bool.not_eq_false', decide_eq_false_iff_not] at hb
    obtain ⟨⟨⟨⟨⟨⟨⟨⟨⟨b1, b2⟩, b3⟩, b4⟩, b5⟩, b6⟩, b7⟩, b8⟩, b9⟩, b10⟩ := hb
    have hlt := notfull hI.1.2.1 (N := 60) rfl (decide_eq_false b10)
    have hn : nn σ 2 < 60 := lt_cnt (t := 2) hI.1.2.1 hlt rfl
    have hn2 : nn (m_lawS σ ld dy wt nt) 2 = nn σ 2 + 1 := by
      unfold nn m_lawS
      rw [sA_me]
      exact cnt_inc hI.1.2.1 (by decide)
    have at_ : ∀ k, k ≠ 2 → (k < 100 ∨ 160 ≤ k) → m_lawS σ ld dy wt nt k = σ k := fun k h1 h2 => law_at (by omega) h1
    have hne : ¬ (100 + nn σ 2 = 2) := by omega
    refine ⟨rfl, fun _ _ => rfl, ?_⟩
    refine ⟨invM_c hI (fun u ht => ?_) (fun k hk => at_ k (by omega) (by omega)), fun i hi => ?_, invP_of h3 (fun k hk => at_ k (by omega) (by omega)), invJ_of h4 (fun k hk => at_ k (by omega) (by omega)), invZ_of h5 (fun k hk => at_ k (by omega) (by omega)), invQ_of h6 (fun k hk => at_ k (by omega) (by omega)), invK_of h7 (fun k hk => at_ k (by omega) (by omega)), invO_of h8 (fun k hk => at_ k (by omega) (by omega)), invD_of h9 (fun k hk => at_ k (by omega) (by omega)), invF_of h10 (at_ 16 (by omega) (by omega)), invW_of h11 (fun k hk => at_ k (by omega) (by omega)), fun i hi => ?_, invB_of h13 (fun k hk => at_ k (by omega) (by omega))⟩
    · by_cases c : u = 2
      · subst c
        show bnd (m_lawS σ ld dy wt nt 2 0) 60
        unfold m_lawS
        rw [sA_me]
        exact bnd_inc hI.1.2.1 hlt (by decide) (by decide)
      · show bnd (m_lawS σ ld dy wt nt u 0) _
        rw [at_ u c (by unfold cntTag at ht; omega)]; exact bnd_all hI u ht
    · have hi : i < nn (m_lawS σ ld dy wt nt) 2 := hi
      rw [hn2] at hi
      show 0 ≤ (m_lawS σ ld dy wt nt (100 + i) 1).toInt
      by_cases c : i = nn σ 2
      · rw [c]
        have : m_lawS σ ld dy wt nt (100 + nn σ 2) 1 = dy := by simp [m_lawS, sA, upd, hne]
        rw [this]
        exact (m_in_iff.mp b2).1
      · rw [law_at (by omega) (by omega)]
        exact h2 i (by omega)
    · have hi : i < nn (m_lawS σ ld dy wt nt) 2 := hi
      rw [hn2] at hi
      show m_lawS σ ld dy wt nt (100 + i) 7 = 0 ∨ m_lawS σ ld dy wt nt (100 + i) 7 = 1 ∨ m_lawS σ ld dy wt nt (100 + i) 7 = 2
      by_cases c : i = nn σ 2
      · rw [c]
        have e7 : m_lawS σ ld dy wt nt (100 + nn σ 2) 7 = rm (wt / 1000) 10 := by simp [m_lawS, sA, upd, hne]
        rw [e7]
        have a1 : ¬ wt / 1000 < 0 := by
          obtain ⟨j, hj, rfl⟩ := nI_of b3
          rw [show (1000 : Int32) = nI 1000 from rfl, pk_div hj (by decide) (by decide)]
          exact nI_nn (by omega)
        have r := (rm_rng a1).1
        rw [i_lt] at b7
        have e2 : (2 : Int32).toInt = 2 := rfl
        have e1 : (1 : Int32).toInt = 1 := rfl
        have e0 : (0 : Int32).toInt = 0 := rfl
        rw [i_eq, i_eq, i_eq]
        omega
      · rw [law_at (by omega) (by omega)]
        exact h12 i (by omega)
  · exact op_same h
end OPS
