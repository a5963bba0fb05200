/-! EACH CALL, more -/
theorem obL_snoc {σ : St} {n : Int32} : ∀ (f k : Nat) (r : Int32), m_obL σ n (f + 1) k r = m_obL σ n f k r + bI (decide (gA σ 24 (nI (k + f)) = n) && decide (gA σ 25 (nI (k + f)) < 2))
  | 0, k, r => rfl
  | f + 1, k, r => by
    rw [m_obL, obL_snoc f (k + 1), m_obL, show k + 1 + f = k + (f + 1) by omega]
theorem obL_none {σ : St} {n : Int32} : ∀ (f : Nat), (∀ k, k < f → ¬ gA σ 24 (nI k) = n) → m_obL σ n f 0 0 = 0
  | 0, _ => rfl
  | f + 1, h => by
    rw [obL_snoc, obL_none f (fun k hk => h k (by omega)), Nat.zero_add, decide_eq_false (h f (by omega))]
    rfl
theorem obL_congr {σ τ : St} {n : Int32} : ∀ (f : Nat), (∀ k, k < f → gA τ 24 (nI k) = gA σ 24 (nI k) ∧ gA τ 25 (nI k) = gA σ 25 (nI k)) → m_obL τ n f 0 0 = m_obL σ n f 0 0
  | 0, _ => rfl
  | f + 1, h => by
    rw [obL_snoc, obL_snoc, obL_congr f (fun k hk => h k (by omega)), Nat.zero_add, (h f (by omega)).1, (h f (by omega)).2]
section OPS2
variable {σ : St}
/-! withdraw -/
theorem wd_at {n : Int32} {k : Nat} (h : k ≠ 20 ∧ k ≠ 21 ∧ k ≠ 22) : m_wdS σ n k = σ k := by
  unfold m_wdS
  rw [sA_ne h.2.2, sA_ne h.2.1, sA_ne h.1]
theorem withdraw_eq {n : Int32} (h : Inv σ) : OpOK (k_withdraw σ n) (m_withdraw σ n) := by
  have hh := h
  obtain ⟨hI, h2, h3, h4, h5, h6, h7, h8, h9, h10, h11, h12, h13⟩ := hh
  unfold k_withdraw m_withdraw m_wdBad
  cases hb : (!m_isN σ n || !decide (gA σ 20 n = 0))
  · simp only [Bool.or_eq_false_iff, Bool.not_eq_false', decide_eq_true_eq] at hb
    have hn := isN_ok hI hb.1
    have hl := okN_lt hn
    have e20 : ∀ i, m_wdS σ n 20 i = if i = n.toNatClampNeg then 2 else σ 20 i := fun i => by
      unfold m_wdS
      rw [sA_ne (by decide), sA_ne (by decide)]
      by_cases c : i = n.toNatClampNeg
      · rw [if_pos c, c, sA_me]
      · rw [if_neg c, sA_at c]
    have e21 : ∀ i, m_wdS σ n 21 i = if i = n.toNatClampNeg then -1 else σ 21 i := fun i => by
      unfold m_wdS
      rw [sA_ne (by decide)]
      by_cases c : i = n.toNatClampNeg
      · rw [if_pos c, c, sA_me]
      · rw [if_neg c, sA_at c, sA_ne (by decide)]
    have e22 : ∀ i, i ≠ n.toNatClampNeg → m_wdS σ n 22 i = σ 22 i := fun i c => by
      unfold m_wdS
      rw [sA_at c, sA_ne (by decide), sA_ne (by decide)]
    have n23 : nn (m_wdS σ n) 23 = nn σ 23 := by unfold nn; rw [wd_at (by omega)]
    refine ⟨rfl, fun _ _ => rfl, ?_⟩
    refine ⟨invM_of hI (fun k hk => wd_at (by omega)), invL_of h2 (fun k hk => wd_at (by omega)) (cnt_le (N := 60) hI.1.2.1), invP_of h3 (fun k hk => wd_at (by omega)), invJ_of h4 (fun k hk => wd_at (by omega)), ⟨fun i hi => ?_, fun i hi => h5.2 i hi⟩, invQ_of h6 (fun k hk => wd_at (by omega)), invK_of h7 (fun k hk => wd_at (by omega)), invO_of h8 (fun k hk => wd_at (by omega)), invD_of h9 (fun k hk => wd_at (by omega)), invF_of h10 (wd_at (σ := σ) (n := n) (k := 16) (by omega)), ?_, invN_of hI h12 (fun k hk => wd_at (by omega)), ⟨fun i hi => ?_, fun i j hi hj hne g1 g2 => ?_⟩⟩
    · have hi : nn (m_wdS σ n) 23 ≤ i := hi
      rw [n23] at hi
      show m_wdS σ n 20 i = 0
      rw [e20, if_neg (by omega)]
      exact h5.1 i hi
    · show cntN (fun i => decide (m_wdS σ n 20 i = 1)) (nn (m_wdS σ n) 23) = nn σ 30
      rw [n23, ← h11]
      refine cnt_congr _ (fun i _ => ?_)
      rw [e20]
      by_cases c : i = n.toNatClampNeg
      · rw [if_pos c, c, show σ 20 n.toNatClampNeg = 0 from hb.2]
        decide
      · rw [if_neg c]
    · have hi : i < nn (m_wdS σ n) 23 := hi
      rw [n23] at hi
      show m_wdS σ n 21 i = -1 ∨ (0 ≤ (m_wdS σ n 21 i).toInt ∧ sOK (m_wdS σ n 22 i))
      by_cases c : i = n.toNatClampNeg
      · rw [e21, if_pos c]; exact Or.inl rfl
      · rw [e21, if_neg c, e22 i c]; exact h13.1 i hi
    · have hi : i < nn (m_wdS σ n) 23 := hi
      have hj : j < nn (m_wdS σ n) 23 := hj
      rw [n23] at hi hj
      have g1 : ¬ m_wdS σ n 21 i = -1 := g1
      have g2 : m_wdS σ n 21 i = m_wdS σ n 21 j := g2
      show ¬ (m_wdS σ n 22 i / 100 = m_wdS σ n 22 j / 100 ∧ rm (m_wdS σ n 22 i) 10 = rm (m_wdS σ n 22 j) 10)
      rw [e21] at g1
      rw [e21, e21] at g2
      by_cases ci : i = n.toNatClampNeg
      · rw [if_pos ci] at g1; exact absurd rfl g1
      · rw [if_neg ci] at g1 g2
        by_cases cj : j = n.toNatClampNeg
        · rw [if_pos cj] at g2; exact absurd g2 g1
        · rw [if_neg cj] at g2
          rw [e22 i ci, e22 j cj]
          exact h13.2 i j hi hj hne g1 g2
  · exact op_same h
/-! object -/
theorem kob_at {n : Int32} {k : Nat} (h : k ≠ 24 ∧ k ≠ 26 ∧ k ≠ 93) : k_objS σ n k = σ k := by
  unfold k_objS m_objS
  rw [sA_ne h.2.2, sA_ne h.2.1, sA_ne h.1]
theorem object_eq {n : Int32} (h : Inv σ) : OpOK (k_object σ n) (m_object σ n) := by
  have hh := h
  obtain ⟨hI, h2, h3, h4, h5, h6, h7, h8, h9, h10, h11, h12, h13⟩ := hh
  have b26 := hI.1.2.2.2.2.2.1
  have eb : c_objBad σ n = (m_objBad σ n || m_objLate σ n) := by
    unfold c_objBad m_objBad m_objLate
    rw [full_eq b26 rfl]
    simp only [Bool.or_assoc]
  unfold k_object m_object
  rw [eb]
  cases hb : (m_objBad σ n || m_objLate σ n)
  · have hb2 := hb
    unfold m_objBad at hb2
    simp only [Bool.or_eq_false_iff, Bool.not_eq_false'] at hb2
    have hlt := notfull b26 (N := 60) rfl hb2.1.2
    have hn := isN_ok hI hb2.1.1.1
    have hl := okN_lt hn
    have hc := cnt_le (N := 60) hI.1.2.2.2.2.1
    have h26 := cnt_le (N := 60) b26
    have n26 : nn (k_objS σ n) 26 = nn σ 26 + 1 := by
      unfold nn k_objS m_objS
      rw [sA_ne (by decide), sA_me]
      exact cnt_inc b26 (by decide)
    have n23 : nn (k_objS σ n) 23 = nn σ 23 := by unfold nn; rw [kob_at (by omega)]
    have e24 : ∀ i, k_objS σ n 24 i = if i = nn σ 26 then n else σ 24 i := fun i => by
      unfold k_objS m_objS
      rw [sA_ne (by decide), sA_ne (by decide)]
      by_cases c : i = nn σ 26
      · rw [if_pos c, c, sA_me]
      · rw [if_neg c, sA_at c]
    have e93 : ∀ i, k_objS σ n 93 i = if i = n.toNatClampNeg then gA σ 93 n + 1 else σ 93 i := fun i => by
      unfold k_objS
      by_cases c : i = n.toNatClampNeg
      · rw [if_pos c, c, sA_me]
      · rw [if_neg c, sA_at c]
        unfold m_objS
        rw [sA_ne (by decide), sA_ne (by decide)]
    have e25 : k_objS σ n 25 = σ 25 := kob_at (by omega)
    refine ⟨add1sub.symm, fun t ht => ?_, ?_⟩
    · show k_objS σ n t = m_objS σ n t
      unfold k_objS
      exact sA_ne (by omega)
    refine ⟨invM_c hI (fun u ht => ?_) (fun k hk => kob_at (by omega)), invL_of h2 (fun k hk => kob_at (by omega)) (cnt_le (N := 60) hI.1.2.1), invP_of h3 (fun k hk => kob_at (by omega)), ⟨fun i hi => ?_, fun i hi => ?_⟩, ⟨fun i hi => ?_, fun i hi => ?_⟩, invQ_of h6 (fun k hk => kob_at (by omega)), invK_of h7 (fun k hk => kob_at (by omega)), fun i hi => ?_, invD_of h9 (fun k hk => kob_at (by omega)), invF_of h10 (kob_at (σ := σ) (n := n) (k := 16) (by omega)), invW_of h11 (fun k hk => kob_at (by omega)), invN_of hI h12 (fun k hk => kob_at (by omega)), invB_of h13 (fun k hk => kob_at (by omega))⟩
    · by_cases c : u = 26
      · subst c
        show bnd (k_objS σ n 26 0) 60
        unfold k_objS m_objS
        rw [sA_ne (by decide), sA_me]
        exact bnd_inc b26 hlt (by decide) (by decide)
      · show bnd (k_objS σ n u 0) _
        rw [kob_at (by unfold cntTag at ht; omega)]; exact bnd_all hI u ht
    · have := h4.1 i (by have e : nn (k_objS σ n) 30 = nn σ 30 := by unfold nn; rw [kob_at (by omega)]
                         have hi : i < nn (k_objS σ n) 30 := hi
                         omega)
      show okN (k_objS σ n) (k_objS σ n (200 + i) 7) ∧ k_objS σ n (200 + i) 5 = gA (k_objS σ n) 17 (k_objS σ n (200 + i) 7) ∧ k_objS σ n (200 + i) 6 = gA (k_objS σ n) 18 (k_objS σ n (200 + i) 7)
      unfold okN gA
      rw [kob_at (k := 200 + i) (by omega), kob_at (k := 17) (by omega), kob_at (k := 18) (by omega), kob_at (k := 23) (by omega)]
      exact this
    · have hi : i < nn (k_objS σ n) 26 := hi
      rw [n26] at hi
      show okN (k_objS σ n) (k_objS σ n 24 i)
      unfold okN
      rw [e24, kob_at (k := 23) (by omega)]
      by_cases c : i = nn σ 26
      · rw [if_pos c]; exact hn
      · rw [if_neg c]; exact h4.2 i (by omega)
    · have hi : nn (k_objS σ n) 23 ≤ i := hi
      rw [n23] at hi
      show k_objS σ n 20 i = 0
      rw [kob_at (by omega)]
      exact h5.1 i hi
    · have hi : nn (k_objS σ n) 26 ≤ i := hi
      rw [n26] at hi
      show k_objS σ n 25 i = 0
      rw [e25]
      exact h5.2 i (by omega)
    · have hi : i < nn (k_objS σ n) 23 := hi
      rw [n23] at hi
      show k_objS σ n 93 i = m_objd (k_objS σ n) (nI i)
      unfold m_objd
      rw [n26, obL_snoc, Nat.zero_add, obL_congr (σ := σ) (τ := k_objS σ n) (nn σ 26) (fun k hk => by
        unfold gA
        rw [e24, e25, nI_clamp (by omega), if_neg (by omega)]
        exact ⟨rfl, rfl⟩)]
      have f1 : gA (k_objS σ n) 24 (nI (nn σ 26)) = n := by unfold gA; rw [nI_clamp (by omega), e24, if_pos rfl]
      have f2 : gA (k_objS σ n) 25 (nI (nn σ 26)) = 0 := by unfold gA; rw [nI_clamp (by omega), e25]; exact h5.2 _ (Nat.le_refl _)
      rw [f1, f2, e93]
      have hO := h8 i hi
      unfold m_objd at hO
      rw [← hO]
      by_cases c : i = n.toNatClampNeg
      · rw [if_pos c, decide_eq_true (by rw [c, nI_ok hn.1]), c]
        rfl
      · rw [if_neg c, decide_eq_false (fun z => c (by rw [z, nI_clamp (by omega)]))]
        exact (Int32.add_zero _).symm
  · exact op_same h
/-! judge -/
theorem obL_one {n : Int32} {o : Nat} {v : Int32} (ho : o < 2 ^ 31) : ∀ (f : Nat), f ≤ 60 → (o < f → m_obL (sA σ 25 o v) n f 0 0 + bI (decide (σ 24 o = n) && decide (σ 25 o < 2)) = m_obL σ n f 0 0 + bI (decide (σ 24 o = n) && decide (v < 2))) ∧ (f ≤ o → m_obL (sA σ 25 o v) n f 0 0 = m_obL σ n f 0 0)
  | 0, _ => ⟨fun h => absurd h (Nat.not_lt_zero _), fun _ => rfl⟩
  | f + 1, hf => by
    obtain ⟨i1, i2⟩ := obL_one ho f (by omega)
    have e24 : gA (sA σ 25 o v) 24 (nI f) = σ 24 f := by unfold gA; rw [sA_ne (by decide), nI_clamp (by omega)]
    have g24 : gA σ 24 (nI f) = σ 24 f := g_nI (by omega)
    have g25 : gA σ 25 (nI f) = σ 25 f := g_nI (by omega)
    rw [obL_snoc, obL_snoc, Nat.zero_add, e24, g24, g25]
    refine ⟨fun h => ?_, fun h => ?_⟩
    · by_cases c : o = f
      · subst c
        have e25 : gA (sA σ 25 o v) 25 (nI o) = v := by unfold gA; rw [nI_clamp (by omega), sA_me]
        rw [i2 (Nat.le_refl _), e25, Int32.add_assoc, Int32.add_assoc, Int32.add_comm (bI (decide (σ 24 o = n) && decide (v < 2)))]
      · have e25 : gA (sA σ 25 o v) 25 (nI f) = σ 25 f := by unfold gA; rw [nI_clamp (by omega), sA_at (fun z => c z.symm)]
        rw [e25, Int32.add_assoc, Int32.add_comm (bI (decide (σ 24 f = n) && decide (σ 25 f < 2))), ← Int32.add_assoc, i1 (by omega), Int32.add_assoc, Int32.add_comm (bI (decide (σ 24 o = n) && decide (v < 2))), ← Int32.add_assoc]
    · have e25 : gA (sA σ 25 o v) 25 (nI f) = σ 25 f := by unfold gA; rw [nI_clamp (by omega), sA_at (by omega)]
      rw [e25, i2 (by omega)]
theorem in_cnt {t : Nat} {N : Int} {x : Int32} (hb : bnd (σ t 0) N) : m_in x 0 (σ t 0 - 1) = (!decide (x < 0) && decide (x < σ t 0)) := by
  have h := cnt_pred hb
  unfold m_in
  congr 1
  rw [← decide_not]
  apply decide_eq_decide.mpr
  rw [i_lt, i_lt, h]
  omega
theorem kjd_at {o up : Int32} {k : Nat} (h : k ≠ 25 ∧ k ≠ 93) : k_jdS σ o up k = σ k := by
  unfold k_jdS m_jdS
  cases decide (up = 0)
  · rw [if_neg (by decide), sA_ne h.1]
  · rw [if_pos rfl, sA_ne h.2, sA_ne h.1]
theorem judge_eq {o up : Int32} (h : Inv σ) : OpOK (k_judge σ o up) (m_judge σ o up) := by
  have hh := h
  obtain ⟨hI, h2, h3, h4, h5, h6, h7, h8, h9, h10, h11, h12, h13⟩ := hh
  have b26 := hI.1.2.2.2.2.2.1
  have h26 := cnt_le (N := 60) b26
  have hc := cnt_le (N := 60) hI.1.2.2.2.2.1
  have eb : c_jdBad σ o = m_jdBad σ o := by
    unfold c_jdBad m_jdBad
    rw [in_cnt b26]
    simp only [Bool.not_and, Bool.not_not, Bool.or_assoc]
  unfold k_judge m_judge
  rw [eb]
  cases hb : m_jdBad σ o
  · rw [← eb] at hb
    unfold c_jdBad at hb
    simp only [Bool.or_eq_false_iff, Bool.not_eq_false', decide_eq_true_eq, decide_eq_false_iff_not] at hb
    obtain ⟨b1, b2, b3⟩ := hb
    have hO : okO σ o := by
      rw [i_lt] at b1 b2
      have e0 : (0 : Int32).toInt = 0 := rfl
      exact ⟨by omega, by omega⟩
    have hol := ok_lt (t := 26) hO
    have hN := ob_ok h4 hO
    have hNl := okN_lt hN
    have n23 : nn (k_jdS σ o up) 23 = nn σ 23 := by unfold nn; rw [kjd_at (by omega)]
    have n26 : nn (k_jdS σ o up) 26 = nn σ 26 := by unfold nn; rw [kjd_at (by omega)]
    have e25 : k_jdS σ o up 25 = sA σ 25 o.toNatClampNeg (if decide (up = 0) then 2 else 1) 25 := by
      unfold k_jdS m_jdS
      cases decide (up = 0)
      · rfl
      · rw [if_pos rfl, sA_ne (by decide)]
    have e24 : k_jdS σ o up 24 = σ 24 := kjd_at (by omega)
    refine ⟨rfl, fun t ht => ?_, ?_⟩
    · show k_jdS σ o up t = m_jdS σ o up t
      unfold k_jdS
      cases decide (up = 0)
      · rfl
      · rw [if_pos rfl, sA_ne (by omega)]
    refine ⟨invM_of hI (fun k hk => kjd_at (by omega)), invL_of h2 (fun k hk => kjd_at (by omega)) (cnt_le (N := 60) hI.1.2.1), invP_of h3 (fun k hk => kjd_at (by omega)), invJ_of h4 (fun k hk => kjd_at (by omega)), ⟨fun i hi => ?_, fun i hi => ?_⟩, invQ_of h6 (fun k hk => kjd_at (by omega)), invK_of h7 (fun k hk => kjd_at (by omega)), fun i hi => ?_, invD_of h9 (fun k hk => kjd_at (by omega)), invF_of h10 (kjd_at (by omega)), invW_of h11 (fun k hk => kjd_at (by omega)), invN_of hI h12 (fun k hk => kjd_at (by omega)), invB_of h13 (fun k hk => kjd_at (by omega))⟩
    · have hi : nn (k_jdS σ o up) 23 ≤ i := hi
      rw [n23] at hi
      show k_jdS σ o up 20 i = 0
      rw [kjd_at (by omega)]
      exact h5.1 i hi
    · have hi : nn (k_jdS σ o up) 26 ≤ i := hi
      rw [n26] at hi
      show k_jdS σ o up 25 i = 0
      rw [e25, sA_at (by omega)]
      exact h5.2 i hi
    · have hi : i < nn (k_jdS σ o up) 23 := hi
      rw [n23] at hi
      show k_jdS σ o up 93 i = m_objd (k_jdS σ o up) (nI i)
      have ed : m_objd (k_jdS σ o up) (nI i) = m_obL (sA σ 25 o.toNatClampNeg (if decide (up = 0) then 2 else 1)) (nI i) (nn σ 26) 0 0 := by
        unfold m_objd
        rw [n26]
        refine obL_congr _ (fun k hk => ?_)
        unfold gA
        rw [e24, e25, sA_ne (by decide)]
        exact ⟨rfl, rfl⟩
      have h1 := (obL_one (σ := σ) (n := nI i) (o := o.toNatClampNeg) (v := if decide (up = 0) then 2 else 1) (by omega) (nn σ 26) (by omega)).1 hol
      have hO8 := h8 i hi
      unfold m_objd at hO8
      have e25o : σ 25 o.toNatClampNeg = 0 := b3
      have e24o : σ 24 o.toNatClampNeg = gA σ 24 o := rfl
      rw [← hO8, e25o, e24o] at h1
      rw [ed]
      have hne : ∀ {a b c : Int32}, a + b = c + b → a = c := fun {a b c} z => by
        have := congrArg (fun y => y - b) z
        simp only [Int32.add_sub_cancel] at this
        exact this
      by_cases cu : up = 0
      · rw [decide_eq_true cu] at h1 ⊢
        have e93 : k_jdS σ o up 93 i = if i = (gA σ 24 o).toNatClampNeg then gA σ 93 (gA σ 24 o) - 1 else σ 93 i := by
          unfold k_jdS
          rw [decide_eq_true cu, if_pos rfl]
          by_cases c : i = (gA σ 24 o).toNatClampNeg
          · rw [if_pos c, c, sA_me]
          · rw [if_neg c, sA_at c]
            unfold m_jdS
            rw [sA_ne (by decide)]
        rw [e93]
        by_cases c : i = (gA σ 24 o).toNatClampNeg
        · have ec : gA σ 24 o = nI i := by rw [c, nI_ok hN.1]
          rw [if_pos c]
          rw [decide_eq_true ec] at h1
          have h1 : m_obL (sA σ 25 o.toNatClampNeg 2) (nI i) (nn σ 26) 0 0 + 1 = σ 93 i + 0 := h1
          rw [Int32.add_zero] at h1
          show σ 93 (gA σ 24 o).toNatClampNeg - 1 = m_obL (sA σ 25 o.toNatClampNeg 2) (nI i) (nn σ 26) 0 0
          rw [← c, ← h1]
          exact Int32.add_sub_cancel _ _
        · have ec : ¬ gA σ 24 o = nI i := fun z => c (by rw [z, nI_clamp (by omega)])
          rw [if_neg c]
          rw [decide_eq_false ec] at h1
          have h1 : m_obL (sA σ 25 o.toNatClampNeg 2) (nI i) (nn σ 26) 0 0 + 0 = σ 93 i + 0 := h1
          rw [Int32.add_zero, Int32.add_zero] at h1
          exact h1.symm
      · rw [decide_eq_false cu] at h1 ⊢
        have e93 : k_jdS σ o up 93 i = σ 93 i := by
          unfold k_jdS m_jdS
          rw [decide_eq_false cu, if_neg (by decide), sA_ne (by decide)]
        rw [e93]
        exact (hne h1).symm
  · exact op_same h
end OPS2
