/-! EACH CALL, the last -/
theorem sA_comm {σ : St} {t u j k : Nat} {x y : Int32} (h : t ≠ u) : sA (sA σ t j x) u k y = sA (sA σ u k y) t j x := by
  funext v
  by_cases e1 : v = t
  · subst e1
    rw [sA_ne h]
    show (if v = v then upd (σ v) j x else σ v) = (if v = v then upd (sA σ u k y v) j x else sA σ u k y v)
    rw [if_pos rfl, if_pos rfl, sA_ne h]
  · rw [sA_ne (t := t) e1]
    by_cases e2 : v = u
    · subst e2
      show (if v = v then upd (sA σ t j x v) k y else sA σ t j x v) = (if v = v then upd (σ v) k y else σ v)
      rw [if_pos rfl, if_pos rfl, sA_ne e1]
    · rw [sA_ne e2, sA_ne e1, sA_ne e2]
section OPS3
variable {σ : St}
/-! post -/
theorem kpo_at {a b : Int32} {k : Nat} (h : (k < 17 ∨ k = 20 ∨ 23 < k) ∧ k ≠ 93) : k_postS σ a b k = σ k := by
  unfold k_postS m_postS
  rw [sA_ne h.2, sA_ne (by omega), sA_ne (by omega), sA_ne (by omega), sA_ne (by omega), sA_ne (by omega), sA_ne (by omega)]
theorem kpo_row {a b : Int32} {k i : Nat} (hk : k ≠ 23) (h : i ≠ nn σ 23) : k_postS σ a b k i = σ k i := not_at (by omega) hk (by omega)
theorem post_eq {a b : Int32} (h : Inv σ) : OpOK (k_post σ a b) (m_post σ a b) := by
  have hh := h
  obtain ⟨hI, h2, h3, h4, h5, h6, h7, h8, h9, h10, h11, h12, h13⟩ := hh
  have b23 := hI.1.2.2.2.2.1
  have eb : c_postBad σ a b = (m_postBad σ a b || m_poL σ a b (nn σ 23) 0) := by
    unfold c_postBad m_postBad
    rw [full_eq b23 rfl]
    cases m_isP σ a <;> cases m_isP σ b <;> cases decide (a = b) <;> cases decide (σ 23 0 = 60) <;> cases decide (gA σ 10 a = -1) <;> cases decide (gA σ 10 b = -1) <;> cases m_poL σ a b (nn σ 23) 0 <;> rfl
  unfold k_post m_post
  rw [eb]
  cases hb : (m_postBad σ a b || m_poL σ a b (nn σ 23) 0)
  · have hb2 := hb
    unfold m_postBad at hb2
    simp only [Bool.or_eq_false_iff, Bool.not_eq_false'] at hb2
    obtain ⟨⟨⟨⟨⟨⟨b1, b2⟩, b3⟩, b4⟩, b5⟩, b6⟩, -⟩ := hb2
    have hlt := notfull b23 (N := 60) rfl b6
    have ha := isP_ok hI b1
    have hb' := isP_ok hI b2
    have hab := decide_eq_false_iff_not.mp b3
    have hc := cnt_le (N := 60) b23
    have hnlt : nn σ 23 < 60 := lt_cnt (t := 23) b23 hlt rfl
    have e23 : k_postS σ a b 23 0 = σ 23 0 + 1 := by
      unfold k_postS m_postS
      rw [sA_ne (by decide), sA_me]
    have n23 : nn (k_postS σ a b) 23 = nn σ 23 + 1 := by
      unfold nn
      rw [e23]
      exact cnt_inc b23 (by decide)
    have i23 : (k_postS σ a b 23 0).toInt = (σ 23 0).toInt + 1 := by
      rw [e23]
      have e1 : (1 : Int32).toInt = 1 := rfl
      have := b23.1
      have := b23.2
      exact i_add (by omega) (by omega)
    have oN : ∀ x, okN σ x → okN (k_postS σ a b) x := fun x hx => ⟨hx.1, by rw [i23]; have := hx.2; omega⟩
    have e17 : k_postS σ a b 17 (nn σ 23) = a := by
      unfold k_postS m_postS
      rw [sA_ne (by decide), sA_ne (by decide), sA_ne (by decide), sA_ne (by decide), sA_ne (by decide), sA_ne (by decide), sA_me]
    have e18 : k_postS σ a b 18 (nn σ 23) = b := by
      unfold k_postS m_postS
      rw [sA_ne (by decide), sA_ne (by decide), sA_ne (by decide), sA_ne (by decide), sA_ne (by decide), sA_me]
    have e19 : k_postS σ a b 19 (nn σ 23) = σ 0 0 := by
      unfold k_postS m_postS
      rw [sA_ne (by decide), sA_ne (by decide), sA_ne (by decide), sA_ne (by decide), sA_me]
    have e21 : k_postS σ a b 21 (nn σ 23) = -1 := by
      unfold k_postS m_postS
      rw [sA_ne (by decide), sA_ne (by decide), sA_ne (by decide), sA_me]
    have e93 : k_postS σ a b 93 (nn σ 23) = 0 := by
      unfold k_postS
      rw [sA_me]
    have n30 : nn (k_postS σ a b) 30 = nn σ 30 := by unfold nn; rw [kpo_at (by omega)]
    have n26 : nn (k_postS σ a b) 26 = nn σ 26 := by unfold nn; rw [kpo_at (by omega)]
    have h30 := cnt_le (N := 60) hI.1.2.2.2.2.2.2.2.1
    have h26 := cnt_le (N := 60) hI.1.2.2.2.2.2.1
    have e20 : k_postS σ a b 20 = σ 20 := kpo_at (by omega)
    have e24 : k_postS σ a b 24 = σ 24 := kpo_at (by omega)
    have e25 : k_postS σ a b 25 = σ 25 := kpo_at (by omega)
    refine ⟨add1sub.symm, fun t ht => ?_, ?_⟩
    · show k_postS σ a b t = m_postS σ a b t
      unfold k_postS
      exact sA_ne (by omega)
    show Inv (k_postS σ a b)
    refine ⟨⟨bnds_of (fun u ht => ?_), ?_, fun i hi => ?_, fun i hi => ?_⟩, invL_of h2 (fun k hk => kpo_at (by omega)) (cnt_le (N := 60) hI.1.2.1), invP_of h3 (fun k hk => kpo_at (by omega)), ⟨fun i hi => ?_, fun i hi => ?_⟩, ⟨fun i hi => ?_, fun i hi => ?_⟩, invQ_of h6 (fun k hk => kpo_at (by omega)), invK_of h7 (fun k hk => kpo_at (by omega)), fun i hi => ?_, fun i hi => ?_, invF_of h10 (kpo_at (by omega)), ?_, invN_of hI h12 (fun k hk => kpo_at (by omega)), ⟨fun i hi => ?_, fun i j hi hj hne g1 g2 => ?_⟩⟩
    · by_cases c : u = 23
      · subst c
        show bnd (k_postS σ a b 23 0) 60
        rw [e23]
        exact bnd_inc b23 hlt (by decide) (by decide)
      · rw [kpo_at (by unfold cntTag at ht; omega)]; exact bnd_all hI u ht
    · have := hI.2.1
      simp only [okP, okPN, nn, kpo_at (σ := σ) (a := a) (b := b) (k := 6) (by omega), kpo_at (σ := σ) (a := a) (b := b) (k := 7) (by omega), kpo_at (σ := σ) (a := a) (b := b) (k := 10) (by omega), kpo_at (σ := σ) (a := a) (b := b) (k := 11) (by omega)] at this ⊢
      exact this
    · rw [n23] at hi
      unfold okP
      rw [kpo_at (k := 11) (by omega)]
      by_cases c : i = nn σ 23
      · rw [c, e17, e18, e19]
        exact ⟨ha, hb', hI.1.1⟩
      · rw [kpo_row (by omega) c, kpo_row (by omega) c, kpo_row (by omega) c]
        exact hI.2.2.1 i (by omega)
    · rw [n30] at hi
      unfold okP
      rw [kpo_at (k := 11) (by omega), kpo_at (k := 200 + i) (by omega)]
      exact hI.2.2.2 i hi
    · rw [n30] at hi
      have hj := h4.1 i hi
      have hlj := okN_lt hj.1
      rw [kpo_at (k := 200 + i) (by omega)]
      refine ⟨oN _ hj.1, ?_, ?_⟩
      · rw [hj.2.1]; exact (kpo_row (by omega) (by omega)).symm
      · rw [hj.2.2]; exact (kpo_row (by omega) (by omega)).symm
    · rw [n26] at hi
      rw [e24]
      exact oN _ (h4.2 i hi)
    · rw [n23] at hi
      rw [e20]
      exact h5.1 i (by omega)
    · rw [n26] at hi
      rw [e25]
      exact h5.2 i hi
    · rw [n23] at hi
      have eo : m_objd (k_postS σ a b) (nI i) = m_objd σ (nI i) := by
        unfold m_objd
        rw [n26, obL_of e24 e25]
      rw [eo]
      by_cases c : i = nn σ 23
      · rw [c, e93]
        unfold m_objd
        refine (obL_none _ (fun k hk z => ?_)).symm
        have hok := h4.2 k hk
        have hl := okN_lt hok
        rw [g_nI (by omega)] at z
        rw [z, nI_clamp (by omega)] at hl
        omega
      · rw [kpo_row (by omega) c]
        exact h8 i (by omega)
    · rw [n23] at hi
      rw [kpo_at (k := 0) (by omega)]
      by_cases c : i = nn σ 23
      · rw [c, e17, e18, e19]
        exact ⟨hab, Int.le_refl _⟩
      · rw [kpo_row (by omega) c, kpo_row (by omega) c, kpo_row (by omega) c]
        exact h9 i (by omega)
    · show cntN (fun i => decide (k_postS σ a b 20 i = 1)) (nn (k_postS σ a b) 23) = nn (k_postS σ a b) 30
      rw [n23, n30, e20, cntN, h5.1 _ (Nat.le_refl _)]
      exact h11
    · rw [n23] at hi
      by_cases c : i = nn σ 23
      · rw [c, e21]; exact Or.inl rfl
      · rw [kpo_row (by omega) c, kpo_row (by omega) c]
        exact h13.1 i (by omega)
    · rw [n23] at hi hj
      by_cases ci : i = nn σ 23
      · rw [ci, e21] at g1; exact absurd rfl g1
      · by_cases cj : j = nn σ 23
        · rw [cj, e21] at g2; exact absurd g2 g1
        · rw [kpo_row (by omega) ci] at g1
          rw [kpo_row (by omega) ci, kpo_row (by omega) cj] at g2
          rw [kpo_row (by omega) ci, kpo_row (by omega) cj]
          exact h13.2 i j (by omega) (by omega) hne g1 g2
  · exact op_same h
/-! wed -/
theorem wed_st {n : Int32} : k_enS (k_we1 σ n) n = m_weS σ n := by
  have e : k_we1 σ n = sA (sA (sA σ 10 (gA σ 17 n).toNatClampNeg (gA σ 18 n)) 10 (gA σ 18 n).toNatClampNeg (gA σ 17 n)) 20 n.toNatClampNeg 1 := by
    unfold k_we1
    rw [sA_comm (t := 20) (u := 10) (by decide), sA_comm (t := 20) (u := 10) (by decide)]
  rw [e]
  rfl
theorem we_at {n : Int32} {k : Nat} (h : k ≠ 10 ∧ k ≠ 20 ∧ k ≠ 30 ∧ k ≠ 200 + nn σ 30) : m_weS σ n k = σ k := by
  unfold m_weS
  rw [sA_ne h.2.2.1, sA_ne h.2.2.2, sA_ne h.2.2.2, sA_ne h.2.2.2, sA_ne h.2.2.2, sA_ne h.2.2.2, sA_ne h.2.2.2, sA_ne h.2.2.2, sA_ne h.2.2.2, sA_ne h.2.1, sA_ne h.1, sA_ne h.1]
theorem cnt_set {f g : Nat → Bool} {i : Nat} (hf : f i = false) (hg : g i = true) (e : ∀ j, j ≠ i → g j = f j) : ∀ n, i < n → cntN g n = cntN f n + 1
  | 0, h => absurd h (Nat.not_lt_zero _)
  | n + 1, h => by
    rw [cntN, cntN]
    by_cases c : i = n
    · subst c
      rw [hf, hg, cnt_congr (f := g) (g := f) i (fun b hb => e b (by omega))]
      simp
    · rw [cnt_set hf hg e n (by omega), e n (fun z => c z.symm)]
      omega
theorem wed_eq {n : Int32} (h : Inv σ) : OpOK (k_wed σ n) (m_wed σ n) := by
  have hh := h
  obtain ⟨hI, h2, h3, h4, h5, h6, h7, h8, h9, h10, h11, h12, h13⟩ := hh
  have b30 := hI.1.2.2.2.2.2.2.2.1
  have hE := inv_E hI h11
  have eb : c_weBad σ n = m_weBad σ n := by
    unfold c_weBad m_weBad
    cases c1 : m_isN σ n
    · simp only [Bool.not_false, Bool.true_or]
    · have hn := isN_ok hI c1
      have hd := h9 _ (okN_lt hn)
      rw [bar_eq hI h3 h7 (one_ok hI hn) (oth_ok hI hn) hd.1, ripe_eq hI h10 h8 hn (okD_n hI) hd.2]
      by_cases c2 : gA σ 20 n = 0
      · have := hE n hn c2
        rw [decide_eq_false (show ¬ σ 30 0 = 60 by rw [i_eq]; have : (60 : Int32).toInt = 60 := rfl; omega)]
        simp only [Bool.or_assoc, Bool.or_false]
      · rw [decide_eq_false c2]
        simp only [Bool.not_false, Bool.not_true, Bool.false_or, Bool.true_or]
  unfold k_wed m_wed
  rw [eb, wed_st]
  cases hb : m_weBad σ n
  · have hb2 := hb
    unfold m_weBad at hb2
    simp only [Bool.or_eq_false_iff, Bool.not_eq_false', decide_eq_true_eq] at hb2
    obtain ⟨⟨⟨⟨⟨b1, b2⟩, b3⟩, b4⟩, b5⟩, b6⟩ := hb2
    have hlt := notfull b30 (N := 60) rfl b6
    have hn := isN_ok hI b1
    have hl := okN_lt hn
    have hc := cnt_le (N := 60) hI.1.2.2.2.2.1
    have hnlt : nn σ 30 < 60 := lt_cnt (t := 30) b30 hlt rfl
    have h2n := cnt_le (N := 60) hI.1.2.1
    have e30 : m_weS σ n 30 0 = σ 30 0 + 1 := by
      unfold m_weS
      rw [sA_me]
    have n30 : nn (m_weS σ n) 30 = nn σ 30 + 1 := by
      unfold nn
      rw [e30]
      exact cnt_inc b30 (by decide)
    have n23 : nn (m_weS σ n) 23 = nn σ 23 := by unfold nn; rw [we_at (by omega)]
    have n11 : nn (m_weS σ n) 11 = nn σ 11 := by unfold nn; rw [we_at (by omega)]
    have hne : ¬ (200 + nn σ 30 = 30) := by omega
    have hne2 : ¬ (200 + nn σ 30 = 20) := by omega
    have hne1 : ¬ (200 + nn σ 30 = 10) := by omega
    have e5 : m_weS σ n (200 + nn σ 30) 5 = gA σ 17 n := by simp [m_weS, sA, upd, hne]
    have e6 : m_weS σ n (200 + nn σ 30) 6 = gA σ 18 n := by simp [m_weS, sA, upd, hne]
    have e7 : m_weS σ n (200 + nn σ 30) 7 = n := by simp [m_weS, sA, upd, hne]
    have e20 : ∀ i, m_weS σ n 20 i = if i = n.toNatClampNeg then 1 else σ 20 i := fun i => by
      unfold m_weS
      rw [sA_ne (by decide), sA_ne (by omega), sA_ne (by omega), sA_ne (by omega), sA_ne (by omega), sA_ne (by omega), sA_ne (by omega), sA_ne (by omega), sA_ne (by omega)]
      by_cases c : i = n.toNatClampNeg
      · rw [if_pos c, c, sA_me]
      · rw [if_neg c, sA_at c, sA_ne (by decide), sA_ne (by decide)]
    have e10 : ∀ i, m_weS σ n 10 i = if i = (gA σ 18 n).toNatClampNeg then gA σ 17 n else if i = (gA σ 17 n).toNatClampNeg then gA σ 18 n else σ 10 i := fun i => by
      unfold m_weS
      rw [sA_ne (by decide), sA_ne (by omega), sA_ne (by omega), sA_ne (by omega), sA_ne (by omega), sA_ne (by omega), sA_ne (by omega), sA_ne (by omega), sA_ne (by omega), sA_ne (by decide)]
      by_cases c : i = (gA σ 18 n).toNatClampNeg
      · rw [if_pos c, c, sA_me]
      · rw [if_neg c, sA_at c]
        by_cases c2 : i = (gA σ 17 n).toNatClampNeg
        · rw [if_pos c2, c2, sA_me]
        · rw [if_neg c2, sA_at c2]
    refine ⟨add1sub.symm, fun t ht => rfl, ?_⟩
    show Inv (m_weS σ n)
    refine ⟨⟨bnds_of (fun u ht => ?_), fun i hi => ?_, ?_, fun i hi => ?_⟩, invL_of h2 (fun k hk => we_at (by omega)) h2n, invP_of h3 (fun k hk => we_at (by omega)), ⟨fun i hi => ?_, ?_⟩, ⟨fun i hi => ?_, fun i hi => ?_⟩, invQ_of h6 (fun k hk => we_at (by omega)), invK_of h7 (fun k hk => we_at (by omega)), invO_of h8 (fun k hk => we_at (by omega)), invD_of h9 (fun k hk => we_at (by omega)), invF_of h10 (we_at (by omega)), ?_, invN_of hI h12 (fun k hk => we_at (by omega)), invB_of h13 (fun k hk => we_at (by omega))⟩
    · by_cases c : u = 30
      · subst c
        show bnd (m_weS σ n 30 0) 60
        rw [e30]
        exact bnd_inc b30 hlt (by decide) (by decide)
      · rw [we_at (by unfold cntTag at ht; omega)]; exact bnd_all hI u ht
    · rw [n11] at hi
      have := hI.2.1 i hi
      unfold okPN okP
      rw [we_at (k := 6) (by omega), we_at (k := 7) (by omega), we_at (k := 11) (by omega), e10]
      refine ⟨this.1, this.2.1, ?_⟩
      by_cases c : i = (gA σ 18 n).toNatClampNeg
      · rw [if_pos c]; exact Or.inr (one_ok hI hn)
      · rw [if_neg c]
        by_cases c2 : i = (gA σ 17 n).toNatClampNeg
        · rw [if_pos c2]; exact Or.inr (oth_ok hI hn)
        · rw [if_neg c2]; exact this.2.2
    · have := hI.2.2.1
      simp only [okP, nn, we_at (σ := σ) (n := n) (k := 11) (by omega), we_at (σ := σ) (n := n) (k := 17) (by omega), we_at (σ := σ) (n := n) (k := 18) (by omega), we_at (σ := σ) (n := n) (k := 19) (by omega), we_at (σ := σ) (n := n) (k := 23) (by omega)] at this ⊢
      exact this
    · rw [n30] at hi
      unfold okP
      rw [we_at (k := 11) (by omega)]
      by_cases c : i = nn σ 30
      · rw [c, e5, e6]
        exact ⟨one_ok hI hn, oth_ok hI hn⟩
      · rw [we_at (k := 200 + i) (by omega)]
        exact hI.2.2.2 i (by omega)
    · rw [n30] at hi
      unfold okN gA
      rw [we_at (k := 17) (by omega), we_at (k := 18) (by omega), we_at (k := 23) (by omega)]
      by_cases c : i = nn σ 30
      · rw [c, e5, e6, e7]
        exact ⟨hn, rfl, rfl⟩
      · rw [we_at (k := 200 + i) (by omega)]
        exact h4.1 i (by omega)
    · have := h4.2
      simp only [okN, nn, we_at (σ := σ) (n := n) (k := 23) (by omega), we_at (σ := σ) (n := n) (k := 24) (by omega), we_at (σ := σ) (n := n) (k := 26) (by omega)] at this ⊢
      exact this
    · rw [n23] at hi
      rw [e20, if_neg (by omega)]
      exact h5.1 i hi
    · rw [we_at (k := 25) (by omega)]
      refine h5.2 i ?_
      have hi : nn (m_weS σ n) 26 ≤ i := hi
      have : nn (m_weS σ n) 26 = nn σ 26 := by unfold nn; rw [we_at (by omega)]
      omega
    · show cntN (fun i => decide (m_weS σ n 20 i = 1)) (nn (m_weS σ n) 23) = nn (m_weS σ n) 30
      rw [n23, n30, ← h11]
      refine cnt_set (i := n.toNatClampNeg) ?_ ?_ (fun j hj => ?_) _ hl
      · show decide (σ 20 n.toNatClampNeg = 1) = false
        rw [show σ 20 n.toNatClampNeg = 0 from b2]; decide
      · show decide (m_weS σ n 20 n.toNatClampNeg = 1) = true
        rw [e20, if_pos rfl]; decide
      · show decide (m_weS σ n 20 j = 1) = decide (σ 20 j = 1)
        rw [e20, if_neg hj]
  · exact op_same h
/-! person -/
theorem kpe_at {wh bo f mo : Int32} {k : Nat} (h : (k < 4 ∨ 11 < k) ∧ k ≠ 94) : k_perS σ wh bo f mo k = σ k := funext fun v => per_at (by omega) (by omega) (by omega)
theorem person_eq {wh bo f mo : Int32} (h : Inv σ) : OpOK (k_person σ wh bo f mo) (m_person σ wh bo f mo) := by
  have hh := h
  obtain ⟨hI, h2, h3, h4, h5, h6, h7, h8, h9, h10, h11, h12, h13⟩ := hh
  have b11 := hI.1.2.2.1
  have eb : c_perBad σ wh bo f mo = (m_perBad σ wh bo f mo || m_perBad2 σ f mo) := by
    unfold c_perBad m_perBad m_perBad2 c_pcb c_cbp m_in
    rw [full_eq b11 rfl]
    have e1 : (!(!decide (wh < 0) && (decide (wh / 1000000 < 6) && (!decide (31 < rm (wh / 10000) 100) && !decide (rm wh 10000 < 1)))) || (decide (bo < -30000) || decide (σ 0 0 < bo))) = (decide (wh < 0) || !decide (wh / 1000000 < 6) || decide (31 < rm (wh / 10000) 100) || decide (rm wh 10000 < 1) || !(!decide (bo < -30000) && !decide (σ 0 0 < bo))) := by
      simp only [Bool.not_and, Bool.not_not, Bool.or_assoc]
    rw [← e1]
    generalize hG : (!(!decide (wh < 0) && (decide (wh / 1000000 < 6) && (!decide (31 < rm (wh / 10000) 100) && !decide (rm wh 10000 < 1))))) = G
    cases G <;> cases decide (bo < -30000) <;> cases decide (σ 0 0 < bo) <;> cases decide (σ 11 0 = 40) <;> cases decide (f = -1) <;> cases m_isP σ f <;> cases decide (mo = -1) <;> cases m_isP σ mo <;> cases decide (f = mo) <;> rfl
  unfold k_person m_person
  rw [eb]
  cases hb : (m_perBad σ wh bo f mo || m_perBad2 σ f mo)
  · have hb2 := hb
    rw [← eb] at hb2
    unfold c_perBad at hb2
    simp only [Bool.or_eq_false_iff, Bool.not_eq_false', decide_eq_true_eq] at hb2
    obtain ⟨b1, b2, b3, hlt, b5⟩ := hb2
    obtain ⟨hf, hm⟩ := cbp_ok hI b5
    have hnlt : nn σ 11 < 40 := lt_cnt (t := 11) b11 hlt rfl
    have e11 : k_perS σ wh bo f mo 11 0 = σ 11 0 + 1 := by
      unfold k_perS m_perS
      rw [sA_ne (by decide), sA_me]
    have n11 : nn (k_perS σ wh bo f mo) 11 = nn σ 11 + 1 := by
      unfold nn
      rw [e11]
      exact cnt_inc b11 (by decide)
    have i11 : (k_perS σ wh bo f mo 11 0).toInt = (σ 11 0).toInt + 1 := by
      rw [e11]
      have e1 : (1 : Int32).toInt = 1 := rfl
      have := b11.1
      have := b11.2
      exact i_add (by omega) (by omega)
    have oP : ∀ x, okP σ x → okP (k_perS σ wh bo f mo) x := fun x hx => ⟨hx.1, by rw [i11]; have := hx.2; omega⟩
    have oPN : ∀ x, okPN σ x → okPN (k_perS σ wh bo f mo) x := fun x hx => hx.elim Or.inl (fun z => Or.inr (oP x z))
    have ec := i_clamp b11.1
    have old : ∀ x, okP (k_perS σ wh bo f mo) x → ¬ x.toNatClampNeg = nn σ 11 → okP σ x := fun x hx hne => ⟨hx.1, by
      have h1 := hx.2
      rw [i11] at h1
      have h2 := i_clamp hx.1
      have h3 : nn σ 11 = (σ 11 0).toNatClampNeg := rfl
      omega⟩
    have e94 : k_perS σ wh bo f mo 94 (nn σ 11) = 0 := by unfold k_perS; rw [sA_me]
    have g94 : ∀ x, ¬ x.toNatClampNeg = nn σ 11 → gA (k_perS σ wh bo f mo) 94 x = gA σ 94 x := fun x hx => per_at (by omega) (by omega) (by omega)
    have gPe : ∀ x q, gP (k_perS σ wh bo f mo) x q = gP σ x q := fun x q => by unfold gP; rw [kpe_at (by omega)]
    have z94 : ∀ x, x.toNatClampNeg = nn σ 11 → gA (k_perS σ wh bo f mo) 94 x = 0 := fun x hx => by unfold gA; rw [hx, e94]
    have noq : ∀ x q, x.toNatClampNeg = nn σ 11 → ¬ okQ (k_perS σ wh bo f mo) x q := fun x q hx hq => by
      have h1 := hq.2
      rw [z94 x hx] at h1
      have h2 := hq.1
      have e0 : (0 : Int32).toInt = 0 := rfl
      omega
    have ltP : ∀ x, okP σ x → ¬ x.toNatClampNeg = nn σ 11 := fun x hx z => by have := okP_lt hx; omega
    refine ⟨add1sub.symm, fun t ht => ?_, ?_⟩
    · show k_perS σ wh bo f mo t = m_perS σ wh bo f mo t
      unfold k_perS
      exact sA_ne (by omega)
    show Inv (k_perS σ wh bo f mo)
    have e6 : k_perS σ wh bo f mo 6 (nn σ 11) = f := by
      unfold k_perS m_perS
      rw [sA_ne (by decide), sA_ne (by decide), sA_ne (by decide), sA_ne (by decide), sA_me]
    have e7 : k_perS σ wh bo f mo 7 (nn σ 11) = mo := by
      unfold k_perS m_perS
      rw [sA_ne (by decide), sA_ne (by decide), sA_ne (by decide), sA_me]
    have e10 : k_perS σ wh bo f mo 10 (nn σ 11) = -1 := by
      unfold k_perS m_perS
      rw [sA_ne (by decide), sA_ne (by decide), sA_me]
    have n23 : nn (k_perS σ wh bo f mo) 23 = nn σ 23 := by unfold nn; rw [kpe_at (by omega)]
    have n30 : nn (k_perS σ wh bo f mo) 30 = nn σ 30 := by unfold nn; rw [kpe_at (by omega)]
    have n15 : nn (k_perS σ wh bo f mo) 15 = nn σ 15 := by unfold nn; rw [kpe_at (by omega)]
    refine ⟨⟨bnds_of (fun u ht => ?_), fun i hi => ?_, fun i hi => ?_, fun i hi => ?_⟩, invL_of h2 (fun k hk => kpe_at (by omega)) (cnt_le (N := 60) hI.1.2.1), fun x hx => ?_, invJ_of h4 (fun k hk => kpe_at (by omega)), invZ_of h5 (fun k hk => kpe_at (by omega)), fun x hx => ?_, ⟨fun x hx q hq => ?_, fun k hk => ?_⟩, invO_of h8 (fun k hk => kpe_at (by omega)), invD_of h9 (fun k hk => kpe_at (by omega)), invF_of h10 (kpe_at (by omega)), invW_of h11 (fun k hk => kpe_at (by omega)), invN_of hI h12 (fun k hk => kpe_at (by omega)), invB_of h13 (fun k hk => kpe_at (by omega))⟩
    · by_cases c : u = 11
      · subst c
        show bnd (k_perS σ wh bo f mo 11 0) 40
        rw [e11]
        exact bnd_inc b11 hlt (by decide) (by decide)
      · rw [kpe_at (by unfold cntTag at ht; omega)]; exact bnd_all hI u ht
    · rw [n11] at hi
      by_cases c : i = nn σ 11
      · rw [c, e6, e7, e10]
        exact ⟨oPN _ hf, oPN _ hm, Or.inl rfl⟩
      · rw [per_at (by omega) (by omega) (by omega), per_at (by omega) (by omega) (by omega), per_at (by omega) (by omega) (by omega)]
        have := hI.2.1 i (by omega)
        exact ⟨oPN _ this.1, oPN _ this.2.1, oPN _ this.2.2⟩
    · rw [n23] at hi
      have := hI.2.2.1 i hi
      rw [kpe_at (k := 17) (by omega), kpe_at (k := 18) (by omega), kpe_at (k := 19) (by omega)]
      exact ⟨oP _ this.1, oP _ this.2.1, this.2.2⟩
    · rw [n30] at hi
      have := hI.2.2.2 i hi
      rw [kpe_at (k := 200 + i) (by omega)]
      exact ⟨oP _ this.1, oP _ this.2⟩
    · by_cases c : x.toNatClampNeg = nn σ 11
      · rw [z94 x c]
        exact ⟨⟨by decide, by decide⟩, fun q hq => absurd hq (noq x q c)⟩
      · have hx' := old x hx c
        have := h3 x hx'
        rw [g94 x c]
        refine ⟨this.1, fun q hq => ?_⟩
        unfold okQ at hq
        rw [g94 x c] at hq
        have := this.2 q hq
        unfold okK at this ⊢
        rw [gPe, kpe_at (k := 15) (by omega)]
        exact this
    · by_cases c : x.toNatClampNeg = nn σ 11
      · rw [z94 x c, kpe_at (k := 15) (by omega)]
        exact hI.1.2.2.2.1.1
      · rw [g94 x c, kpe_at (k := 15) (by omega)]
        exact h6 x (old x hx c)
    · by_cases c : x.toNatClampNeg = nn σ 11
      · exact absurd hq (noq x q c)
      · unfold okQ at hq
        rw [g94 x c] at hq
        rw [gPe]
        unfold gA
        rw [kpe_at (k := 12) (by omega)]
        exact h7.1 x (old x hx c) q hq
    · rw [n15] at hk
      obtain ⟨p1, q, p2, p3⟩ := h7.2 k hk
      rw [kpe_at (k := 12) (by omega)]
      refine ⟨oP _ p1, q, ?_, ?_⟩
      · unfold okQ
        rw [g94 _ (ltP _ p1)]
        exact p2
      · rw [gPe]; exact p3
  · exact op_same h
/-! paper -/
theorem kpa_at {p kn dy : Int32} {k : Nat} (h : (k < 12 ∨ (15 < k ∧ k < 400)) ∧ k ≠ 94) : k_papS σ p kn dy k = σ k := funext fun v => pap_at (by omega) (by omega) (by omega) (by omega)
theorem paper_eq {p kn dy : Int32} (h : Inv σ) : OpOK (k_paper σ p kn dy) (m_paper σ p kn dy) := by
  have hh := h
  obtain ⟨hI, h2, h3, h4, h5, h6, h7, h8, h9, h10, h11, h12, h13⟩ := hh
  have b15 := hI.1.2.2.2.1
  have eb : c_papBad σ p kn dy = m_papBad σ p kn dy := by
    unfold c_papBad m_papBad m_in
    rw [lt_succ (a := 2) (b := 3) rfl, full_eq b15 rfl]
    simp only [Bool.not_and, Bool.not_not, Bool.or_assoc]
  unfold k_paper m_paper
  rw [eb]
  cases hb : m_papBad σ p kn dy
  · unfold m_papBad at hb
    simp only [Bool.or_eq_false_iff, Bool.not_eq_false'] at hb
    obtain ⟨⟨⟨b1, b2⟩, b3⟩, b4⟩ := hb
    have hlt := notfull b15 (N := 200) rfl b4
    have hp := isP_ok hI b1
    have hpl := okP_lt hp
    have h11n := cnt_le (N := 40) hI.1.2.2.1
    have hnlt : nn σ 15 < 200 := lt_cnt (t := 15) b15 hlt rfl
    have hbp := (h3 p hp).1
    have e1 : (1 : Int32).toInt = 1 := rfl
    have e15 : k_papS σ p kn dy 15 0 = σ 15 0 + 1 := by
      unfold k_papS m_papS
      rw [sA_two (by omega), sA_two (by omega), sA_me]
    have n15 : nn (k_papS σ p kn dy) 15 = nn σ 15 + 1 := by
      unfold nn
      rw [e15]
      exact cnt_inc b15 (by decide)
    have i15 : (k_papS σ p kn dy 15 0).toInt = (σ 15 0).toInt + 1 := by
      rw [e15]
      have := b15.1
      have := b15.2
      exact i_add (by omega) (by omega)
    have i94 : (gA σ 94 p + 1).toInt = (gA σ 94 p).toInt + 1 := by
      have := hbp.1
      have := hbp.2
      exact i_add (by omega) (by omega)
    have g94p : ∀ x, x.toNatClampNeg = p.toNatClampNeg → gA (k_papS σ p kn dy) 94 x = gA σ 94 p + 1 := fun x hx => by
      unfold gA
      rw [hx]
      unfold k_papS
      rw [sA_me]
      rfl
    have g94 : ∀ x, ¬ x.toNatClampNeg = p.toNatClampNeg → gA (k_papS σ p kn dy) 94 x = gA σ 94 x := fun x hx => pap_at (by omega) (by omega) (by omega) (by omega)
    have same : ∀ x, okP σ x → x.toNatClampNeg = p.toNatClampNeg → x = p := fun x hx e => by rw [okX_nI hx.1, okX_nI hp.1, e]
    have gPn : gP (k_papS σ p kn dy) p (gA σ 94 p) = σ 15 0 := by
      unfold gP k_papS
      rw [sA_two (by omega), sA_me]
    have gPo : ∀ x q, ¬ (x.toNatClampNeg = p.toNatClampNeg ∧ q.toNatClampNeg = (gA σ 94 p).toNatClampNeg) → gP (k_papS σ p kn dy) x q = gP σ x q := fun x q hx => pap_at (by omega) (by omega) (by omega) (by omega)
    have g12 : ∀ k, k ≠ nn σ 15 → k_papS σ p kn dy 12 k = σ 12 k := fun k hk => pap_at (by omega) (by omega) (by omega) (by omega)
    have e12 : k_papS σ p kn dy 12 (nn σ 15) = p := by
      unfold k_papS m_papS
      rw [sA_two (by omega), sA_two (by omega), sA_two (by omega), sA_two (by omega), sA_two (by omega), sA_me]
    have oPe : ∀ x, okP (k_papS σ p kn dy) x ↔ okP σ x := fun x => by
      unfold okP
      rw [kpa_at (k := 11) (by omega)]
    have oK : ∀ x, okK σ x → okK (k_papS σ p kn dy) x := fun x hx => ⟨hx.1, by rw [i15]; have := hx.2; omega⟩
    have c94 := i_clamp hbp.1
    have c15 := i_clamp b15.1
    have hm15 : nn σ 15 = (σ 15 0).toNatClampNeg := rfl
    refine ⟨rfl, fun t ht => ?_, ?_⟩
    · show k_papS σ p kn dy t = m_papS σ p kn dy t
      unfold k_papS
      rw [sA_ne (by omega), sA_ne (by omega)]
    show Inv (k_papS σ p kn dy)
    refine ⟨invM_c hI (fun u ht => ?_) (fun k hk => kpa_at (by omega)), invL_of h2 (fun k hk => kpa_at (by omega)) (cnt_le (N := 60) hI.1.2.1), fun x hx => ?_, invJ_of' hI h4 (fun k hk => kpa_at (by omega)), invZ_of h5 (fun k hk => kpa_at (by omega)), fun x hx => ?_, ⟨fun x hx q hq => ?_, fun k hk => ?_⟩, invO_of h8 (fun k hk => kpa_at (by omega)), invD_of h9 (fun k hk => kpa_at (by omega)), invF_of h10 (kpa_at (by omega)), invW_of h11 (fun k hk => kpa_at (by omega)), invN_of hI h12 (fun k hk => kpa_at (by omega)), invB_of h13 (fun k hk => kpa_at (by omega))⟩
    · by_cases c : u = 15
      · subst c
        show bnd (k_papS σ p kn dy 15 0) 200
        rw [e15]
        exact bnd_inc b15 hlt (by decide) (by decide)
      · rw [kpa_at (by unfold cntTag at ht; omega)]; exact bnd_all hI u ht
    · have hx := (oPe x).mp hx
      by_cases c : x.toNatClampNeg = p.toNatClampNeg
      · have ex := same x hx c
        subst ex
        have hq6 := h6 x hp
        rw [i_lt, show (200 : Int32).toInt = 200 from rfl] at hlt
        rw [g94p x rfl]
        refine ⟨⟨by have := hbp.1; omega, by omega⟩, fun q hq => ?_⟩
        unfold okQ at hq
        rw [g94p x rfl, i94] at hq
        have cq := i_clamp hq.1
        by_cases e : q.toNatClampNeg = (gA σ 94 x).toNatClampNeg
        · have eq : q = gA σ 94 x := by rw [okX_nI hq.1, okX_nI hbp.1, e]
          rw [eq, gPn]
          exact ⟨b15.1, by rw [i15]; omega⟩
        · rw [gPo x q (fun z => e z.2)]
          exact oK _ ((h3 x hp).2 q ⟨hq.1, by omega⟩)
      · rw [g94 x c]
        refine ⟨(h3 x hx).1, fun q hq => ?_⟩
        unfold okQ at hq
        rw [g94 x c] at hq
        rw [gPo x q (fun z => c z.1)]
        exact oK _ ((h3 x hx).2 q hq)
    · have hx := (oPe x).mp hx
      rw [i15]
      by_cases c : x.toNatClampNeg = p.toNatClampNeg
      · rw [g94p x c, i94]
        have := h6 p hp
        omega
      · rw [g94 x c]
        have := h6 x hx
        omega
    · have hx := (oPe x).mp hx
      by_cases c : x.toNatClampNeg = p.toNatClampNeg
      · have ex := same x hx c
        subst ex
        unfold okQ at hq
        rw [g94p x rfl, i94] at hq
        have cq := i_clamp hq.1
        by_cases e : q.toNatClampNeg = (gA σ 94 x).toNatClampNeg
        · have eq : q = gA σ 94 x := by rw [okX_nI hq.1, okX_nI hbp.1, e]
          rw [eq, gPn]
          exact e12
        · have hq' : okQ σ x q := ⟨hq.1, by omega⟩
          rw [gPo x q (fun z => e z.2)]
          have hk := ok_lt (t := 15) ((h3 x hp).2 q hq')
          unfold gA
          rw [g12 _ (by omega)]
          exact h7.1 x hp q hq'
      · unfold okQ at hq
        rw [g94 x c] at hq
        rw [gPo x q (fun z => c z.1)]
        have hk := ok_lt (t := 15) ((h3 x hx).2 q hq)
        unfold gA
        rw [g12 _ (by omega)]
        exact h7.1 x hx q hq
    · rw [n15] at hk
      by_cases c : k = nn σ 15
      · rw [c, e12]
        refine ⟨(oPe p).mpr hp, gA σ 94 p, ?_, ?_⟩
        · unfold okQ
          rw [g94p p rfl, i94]
          exact ⟨hbp.1, by omega⟩
        · rw [gPn]; exact cnt_nI b15
      · rw [g12 k c]
        obtain ⟨p1, q, p2, p3⟩ := h7.2 k (by omega)
        have cq := i_clamp p2.1
        refine ⟨(oPe _).mpr p1, q, ?_, ?_⟩
        · unfold okQ
          by_cases e : (σ 12 k).toNatClampNeg = p.toNatClampNeg
          · rw [g94p _ e, i94]
            have ex := same _ p1 e
            have := p2.2
            rw [ex] at this
            exact ⟨p2.1, by omega⟩
          · rw [g94 _ e]; exact p2
        · rw [gPo _ q (fun z => by
            have ex := same _ p1 z.1
            have := p2.2
            rw [ex] at this
            omega)]
          exact p3
  · exact op_same h
end OPS3
