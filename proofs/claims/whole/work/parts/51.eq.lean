/-! THE CLASS'S ANSWERS ARE THE REFERENCE'S: the readers -/
section EQ
variable {σ : St}
theorem share_eq {p q : Int32} (h : ¬ p = q) : m_share σ p q = c_shares σ p q := by
  unfold m_share c_shares
  rw [decide_eq_false h]
  rfl
theorem isPar_eq {p x : Int32} (h : okP σ p) : m_isParent σ p x = c_child σ x p := by
  unfold m_isParent c_child
  rw [decide_eq_false (okP_ne h)]
  rfl
theorem k2_eq {p b : Int32} (hb : okP σ b) (h : ¬ p = b) : m_k2 σ p b = c_nearAs σ p b := by
  unfold m_k2 c_nearAs
  rw [share_eq h, isPar_eq hb]
theorem k3_eq {p q : Int32} : (!decide (p = -1) && m_k3 σ p q) = c_shP σ p q := by
  unfold m_k3 c_shP m_share c_shares
  cases decide (p = -1) <;> rfl
theorem kiL_eq {p b kin : Int32} : m_kiL σ p b 2 0 kin = if c_cous σ p b then 3 else kin := by
  have e0 : m_parent σ b (nI 0) = gA σ 6 b := rfl
  have e1 : m_parent σ b (nI (0 + 1)) = gA σ 7 b := rfl
  unfold c_cous
  rw [m_kiL, m_kiL, m_kiL, e0, e1, ← k3_eq, ← k3_eq]
  cases decide (p = -1) <;> cases m_k3 σ p (gA σ 6 b) <;> cases m_k3 σ p (gA σ 7 b) <;> rfl
theorem kinOf_eq {a b : Int32} (ha : okP σ a) (hb : okP σ b) (h : ¬ a = b) : k_kinOf σ a b = m_kinOf σ a b := by
  unfold k_kinOf m_kinOf m_k1
  rw [isPar_eq ha, isPar_eq hb, share_eq h]
  have e0 : ∀ x, m_parent σ x (nI 0) = gA σ 6 x := fun x => rfl
  have e1 : ∀ x, m_parent σ x (nI (0 + 1)) = gA σ 7 x := fun x => rfl
  cases h1 : c_child σ a b
  · cases h2 : c_child σ b a
    · have g1 : ¬ gA σ 6 a = b ∧ ¬ gA σ 7 a = b := by
        unfold c_child at h1
        simp only [Bool.or_eq_false_iff, decide_eq_false_iff_not] at h1
        exact h1
      have g2 : ¬ gA σ 6 b = a ∧ ¬ gA σ 7 b = a := by
        unfold c_child at h2
        simp only [Bool.or_eq_false_iff, decide_eq_false_iff_not] at h2
        exact h2
      rw [m_koL, m_koL, m_koL, e0, e0, e1, e1, k2_eq hb g1.1, k2_eq ha g2.1, k2_eq hb g1.2, k2_eq ha g2.2, kiL_eq, kiL_eq]
      unfold c_near
      cases c_shares σ a b <;> cases c_nearAs σ (gA σ 6 a) b <;> cases c_nearAs σ (gA σ 7 a) b <;> cases c_nearAs σ (gA σ 6 b) a <;> cases c_nearAs σ (gA σ 7 b) a <;> cases c_cous σ (gA σ 6 a) b <;> cases c_cous σ (gA σ 7 a) b <;> rfl
    · cases c_shares σ a b <;> rfl
  · cases c_child σ b a <;> cases c_shares σ a b <;> rfl
theorem kin_eq (hI : InvM σ) {a b : Int32} : k_kin σ a b = m_kin σ a b := by
  unfold k_kin m_kin
  cases h1 : m_isP σ a
  · simp only [Bool.false_and, Bool.true_and, Bool.and_false, Bool.not_true, Bool.not_false, Bool.false_eq_true, if_false, if_true]
  · cases h2 : m_isP σ b
    · simp only [Bool.false_and, Bool.true_and, Bool.and_false, Bool.not_true, Bool.not_false, Bool.false_eq_true, if_false, if_true]
    · by_cases h : a = b
      · rw [decide_eq_true h]
        simp only [Bool.false_and, Bool.true_and, Bool.and_false, Bool.not_true, Bool.not_false, Bool.false_eq_true, if_false, if_true]
      · rw [decide_eq_false h, kinOf_eq (isP_ok hI h1) (isP_ok hI h2) h]
theorem and1 (x : Int32) : x &&& 1 = 0 ∨ x &&& 1 = 1 := by
  have h : (x &&& 1).toBitVec = x.toBitVec &&& 1#32 := rfl
  have h2 : (x &&& 1).toBitVec = 0#32 ∨ (x &&& 1).toBitVec = 1#32 := by
    rw [h]
    have h3 : (x.toBitVec &&& 1#32).toNat = x.toBitVec.toNat % 2 := by
      rw [BitVec.toNat_and]
      exact Nat.and_one_is_mod _
    rcases Nat.mod_two_eq_zero_or_one x.toBitVec.toNat with e | e
    · exact Or.inl (BitVec.eq_of_toNat_eq (by rw [h3, e]; rfl))
    · exact Or.inr (BitVec.eq_of_toNat_eq (by rw [h3, e]; rfl))
  rcases h2 with e | e
  · exact Or.inl (Int32.toBitVec_inj.mp e)
  · exact Or.inr (Int32.toBitVec_inj.mp e)
theorem wants_eq {p dy k : Int32} : c_wants σ (gA σ 4 p) dy k = m_wants σ p dy k := by
  unfold c_wants m_wants m_asks
  rcases and1 (m_ask σ (gA σ 4 p) dy 4 >>> (k &&& 31)) with e | e <;> rw [e] <;> rfl
theorem hpL_c {x kind day valid : Int32} : ∀ (f k : Nat), c_hpL σ x kind day valid f k = true ↔ ∃ i, k ≤ i ∧ i < k + f ∧ c_hpC σ x kind day valid (nI i) = true
  | 0, k => by
    rw [c_hpL]
    exact ⟨fun h => absurd h (by decide), fun ⟨i, h1, h2, _⟩ => by omega⟩
  | f + 1, k => by
    rw [c_hpL]
    cases h : c_hpC σ x kind day valid (nI k)
    · simp only [Bool.false_eq_true, if_false]
      rw [hpL_c f (k + 1)]
      constructor
      · rintro ⟨i, h1, h2, h3⟩
        exact ⟨i, by omega, by omega, h3⟩
      · rintro ⟨i, h1, h2, h3⟩
        refine ⟨i, ?_, by omega, h3⟩
        by_cases z : i = k
        · rw [z, h] at h3; exact absurd h3 (by decide)
        · omega
    · simp only [if_true, true_iff]
      exact ⟨k, by omega, by omega, h⟩
theorem hpL_m {x kind day : Int32} : ∀ (f k : Nat), m_hpL σ x kind day f k = true ↔ ∃ i, k ≤ i ∧ i < k + f ∧ m_hpC σ x kind day (nI i) = true
  | 0, k => by
    rw [m_hpL]
    exact ⟨fun h => absurd h (by decide), fun ⟨i, h1, h2, _⟩ => by omega⟩
  | f + 1, k => by
    rw [m_hpL]
    cases h : m_hpC σ x kind day (nI k)
    · simp only [Bool.false_eq_true, if_false]
      rw [hpL_m f (k + 1)]
      constructor
      · rintro ⟨i, h1, h2, h3⟩
        exact ⟨i, by omega, by omega, h3⟩
      · rintro ⟨i, h1, h2, h3⟩
        refine ⟨i, ?_, by omega, h3⟩
        by_cases z : i = k
        · rw [z, h] at h3; exact absurd h3 (by decide)
        · omega
    · simp only [if_true, true_iff]
      exact ⟨k, by omega, by omega, h⟩
theorem hasP_eq (hI : InvM σ) (hK : InvP σ) (hKK : InvK σ) {x kind day : Int32} (hx : okP σ x) : c_hasP σ x kind day (m_ask σ (gA σ 4 x) day 5) = m_hasPaper σ x kind day := by
  have h15 := cnt_le (N := 200) hI.1.2.2.2.1
  have hb := (hK x hx).1
  have hb2 := bnd_le (N := 200) hb
  apply Bool.eq_iff_iff.mpr
  unfold c_hasP m_hasPaper
  rw [hpL_c, hpL_m]
  constructor
  · rintro ⟨i, -, h2, h3⟩
    have hq := okQ_nI (σ := σ) (x := x) hb (by omega : i < (gA σ 94 x).toNatClampNeg)
    have hk := pap_ok hK hx hq
    refine ⟨(gP σ x (nI i)).toNatClampNeg, by omega, ?_, ?_⟩
    · have := ok_lt (t := 15) hk
      omega
    · rw [← okX_nI hk.1]
      have h12 := hKK.1 x hx _ hq
      unfold c_hpC at h3
      unfold m_hpC m_asks
      rw [h12, decide_eq_true rfl]
      exact h3
  · rintro ⟨k, -, h2, h3⟩
    unfold m_hpC at h3
    simp only [Bool.and_eq_true, decide_eq_true_eq] at h3
    obtain ⟨e1, h4⟩ := h3
    have hk : k < nn σ 15 := by omega
    obtain ⟨g1, q, g2, g3⟩ := hKK.2 k hk
    have ex : σ 12 k = x := by
      have : gA σ 12 (nI k) = σ 12 k := by unfold gA; rw [nI_clamp (by omega)]
      rw [← this]; exact e1
    rw [ex] at g2 g3
    refine ⟨q.toNatClampNeg, by omega, ?_, ?_⟩
    · have hc := i_clamp g2.1
      have hc2 := i_clamp hb.1
      have := g2.2
      omega
    · rw [← okX_nI g2.1]
      unfold c_hpC
      rw [g3]
      simp only [Bool.and_eq_true, decide_eq_true_eq]
      exact h4
theorem laL_eq (hI : InvM σ) (hK : InvP σ) (hKK : InvK σ) {x dy : Int32} (hx : okP σ x) : ∀ (f k : Nat), c_laL σ x (gA σ 4 x) dy f k = m_laL σ x dy f k
  | 0, _ => rfl
  | f + 1, k => by
    rw [c_laL, m_laL, laL_eq hI hK hKK hx f (k + 1), wants_eq, hasP_eq hI hK hKK hx]
theorem bar_eq (hI : InvM σ) (hK : InvP σ) (hKK : InvK σ) {a b dy : Int32} (ha : okP σ a) (hb : okP σ b) (h : ¬ a = b) : c_bar σ a b dy = m_stands σ a b dy := by
  have ey : ∀ x, c_young σ x (gA σ 4 x) dy = m_isYoung σ x dy := fun x => by
    unfold c_young m_isYoung m_asks
    rw [Int32.mul_comm]
  have ek : (!decide (m_kinOf σ a b = 0)) = decide (0 < m_kinOf σ a b) := by
    have hk : m_kinOf σ a b = 0 ∨ m_kinOf σ a b = 1 ∨ m_kinOf σ a b = 2 ∨ m_kinOf σ a b = 3 := by
      rw [← kinOf_eq ha hb h]
      unfold k_kinOf
      split
      · exact Or.inr (Or.inl rfl)
      · split
        · exact Or.inr (Or.inr (Or.inl rfl))
        · split
          · exact Or.inr (Or.inr (Or.inr rfl))
          · exact Or.inl rfl
    rcases hk with e | e | e | e <;> rw [e] <;> decide
  unfold c_bar m_stands m_lacks
  rw [ey, ey, kinOf_eq ha hb h, ek, laL_eq hI hK hKK ha, laL_eq hI hK hKK hb]
  rfl
theorem against_eq (hI : InvM σ) (hK : InvP σ) (hKK : InvK σ) {a b dy : Int32} : k_against σ a b dy = m_against σ a b dy := by
  unfold k_against m_against
  cases h1 : m_isP σ a
  · simp only [Bool.false_and, Bool.true_and, Bool.and_false, Bool.not_true, Bool.not_false, Bool.false_eq_true, if_false, if_true]
  · cases h2 : m_isP σ b
    · simp only [Bool.false_and, Bool.true_and, Bool.and_false, Bool.not_true, Bool.not_false, Bool.false_eq_true, if_false, if_true]
    · by_cases h : a = b
      · rw [decide_eq_true h]
        simp only [Bool.false_and, Bool.true_and, Bool.and_false, Bool.not_true, Bool.not_false, Bool.false_eq_true, if_false, if_true]
      · rw [decide_eq_false h, bar_eq hI hK hKK (isP_ok hI h1) (isP_ok hI h2) h]
theorem nI_ok {x : Int32} (h : 0 ≤ x.toInt) : nI x.toNatClampNeg = x := (okX_nI h).symm
theorem married_eq (hI : InvM σ) {p : Int32} : k_married σ p = m_married σ p := by
  unfold k_married m_married
  cases h1 : m_isP σ p
  · rfl
  · have h2 := sp_ok hI (isP_ok hI h1)
    by_cases e : gA σ 10 p = -1
    · rw [decide_eq_true e, e]; rfl
    · rw [decide_eq_false e]
      exact nI_ok (okPN_of h2 e).1
theorem told_eq (hI : InvM σ) (hO : InvO σ) {n w : Int32} : k_told σ n w = m_told σ n w := by
  unfold k_told m_told
  cases h1 : m_isN σ n
  · rfl
  · have hn := isN_ok hI h1
    have := hO _ (okN_lt hn)
    rw [nI_ok hn.1] at this
    rw [show gA σ 93 n = m_objd σ n from this]
theorem name_eq (hI : InvM σ) (hJ : InvJ σ) (hN : InvN σ) {e wh lw : Int32} (he : okE σ e) (hw : wh = 0 ∨ wh = 1) (hl : lw = 0 ∨ lw = 1) : k_nameOf σ e wh lw = m_nameOf σ e wh lw := by
  have hj := hJ.1 _ (okE_lt he)
  have hhow : m_how σ e lw = c_nlaw σ e lw := by
    unfold m_how c_nlaw m_asks
    rcases hl with rfl | rfl
    · show m_ask σ (gA σ 4 (gR σ 200 e 5)) _ 7 = _
      rw [show gR σ 200 e 5 = gA σ 17 (gR σ 200 e 7) from hj.2.1]; rfl
    · show m_ask σ (gA σ 4 (gR σ 200 e 6)) _ 7 = _
      rw [show gR σ 200 e 6 = gA σ 18 (gR σ 200 e 7) from hj.2.2]; rfl
  have hr : ∀ ld dy, m_ask σ ld dy 7 = 0 ∨ m_ask σ ld dy 7 = 1 ∨ m_ask σ ld dy 7 = 2 := fun ld dy => by
    unfold m_ask
    rcases best_ok (ld := ld) (dy := dy) hI with h | h
    · rw [h]; exact Or.inl rfl
    · rw [decide_eq_false (fun z => by rw [z] at h; exact absurd h.1 (by decide))]
      exact hN _ (ok_lt (t := 2) h)
  have hc : c_nlaw σ e lw = 0 ∨ c_nlaw σ e lw = 1 ∨ c_nlaw σ e lw = 2 := hr _ _
  unfold k_nameOf m_nameOf
  rw [hhow]
  rcases hc with h | h | h <;> rw [h]
  · rcases hw with rfl | rfl <;> rfl
  · rcases hw with rfl | rfl <;> rfl
  · show gR σ 200 e 1 * 10000 + gR σ 200 e 2 = 10000 * gR σ 200 e 1 + gR σ 200 e 2
    rw [Int32.mul_comm]
theorem nameA_eq (hI : InvM σ) (hJ : InvJ σ) (hN : InvN σ) {e wh lw : Int32} : k_name σ e wh lw = m_name σ e wh lw := by
  unfold k_name m_name
  have e1 : (m_in e 0 (σ 30 0 - 1) && (!decide (wh < 0) && (!decide (1 < wh) && (!decide (lw < 0) && !decide (1 < lw))))) = (m_in e 0 (σ 30 0 - 1) && (m_in wh 0 1 && m_in lw 0 1)) := by
    unfold m_in
    cases decide (wh < 0) <;> cases decide (1 < wh) <;> cases decide (lw < 0) <;> cases decide (1 < lw) <;> rfl
  rw [e1]
  cases h1 : m_in e 0 (σ 30 0 - 1)
  · simp only [Bool.false_and, Bool.true_and, Bool.and_false, Bool.not_true, Bool.not_false, Bool.false_eq_true, if_false, if_true]
  · cases h2 : m_in wh 0 1
    · simp only [Bool.false_and, Bool.true_and, Bool.and_false, Bool.not_true, Bool.not_false, Bool.false_eq_true, if_false, if_true]
    · cases h3 : m_in lw 0 1
      · simp only [Bool.false_and, Bool.true_and, Bool.and_false, Bool.not_true, Bool.not_false, Bool.false_eq_true, if_false, if_true]
      · rw [name_eq hI hJ hN (okE_of hI h1) (in01 h2) (in01 h3)]
theorem quarrel_eq (hI : InvM σ) (hJ : InvJ σ) (hN : InvN σ) {e : Int32} : k_quarrel σ e = m_quarrel σ e := by
  unfold k_quarrel m_quarrel
  cases h1 : m_in e 0 (σ 30 0 - 1)
  · rw [Bool.false_and, Bool.false_and]
  · have he := okE_of hI h1
    rw [name_eq hI hJ hN he (Or.inl rfl) (Or.inl rfl), name_eq hI hJ hN he (Or.inl rfl) (Or.inr rfl), name_eq hI hJ hN he (Or.inr rfl) (Or.inl rfl), name_eq hI hJ hN he (Or.inr rfl) (Or.inr rfl)]
theorem enL_step {e f dy : Int32} : ∀ (n k : Nat) (v : Int32), m_enL σ e f dy (n + 1) k v = if m_enC σ e f dy (nI (k + n)) then gA σ 33 (nI (k + n)) else m_enL σ e f dy n k v
  | 0, k, v => rfl
  | n + 1, k, v => by
    rw [m_enL, enL_step n (k + 1), m_enL, show k + 1 + n = k + (n + 1) by omega]
theorem wr_eq (hJ : InvJ σ) (hI : InvM σ) {e f : Int32} (he : okE σ e) (hf : m_in f 0 7 = true) : c_wr σ e f = gR σ 200 e f.toNatClampNeg := by
  have hj := hJ.1 _ (okE_lt he)
  have h1 := m_in_iff.mp hf
  have e0 : (0 : Int32).toInt = 0 := rfl
  have e7 : (7 : Int32).toInt = 7 := rfl
  have ef := okX_nI (x := f) (by omega)
  have hc := i_clamp (x := f) (by omega)
  have h5 : nI (gA σ 17 (gR σ 200 e 7)).toNatClampNeg = gR σ 200 e 5 := (nI_ok (one_ok hI hj.1).1).trans hj.2.1.symm
  have h6 : nI (gA σ 18 (gR σ 200 e 7)).toNatClampNeg = gR σ 200 e 6 := (nI_ok (oth_ok hI hj.1).1).trans hj.2.2.symm
  have h7 : nI (gR σ 200 e 7).toNatClampNeg = gR σ 200 e 7 := nI_ok hj.1.1
  have hk : f.toNatClampNeg = 0 ∨ f.toNatClampNeg = 1 ∨ f.toNatClampNeg = 2 ∨ f.toNatClampNeg = 3 ∨ f.toNatClampNeg = 4 ∨ f.toNatClampNeg = 5 ∨ f.toNatClampNeg = 6 ∨ f.toNatClampNeg = 7 := by omega
  unfold c_wr
  rw [h5, h6, h7]
  rcases hk with k | k | k | k | k | k | k | k <;> rw [k] at ef ⊢ <;> rw [ef] <;> rfl
theorem enD_eq {e f dy w : Int32} (hw : c_wr σ e f = w) : ∀ n, c_enD σ e f dy n = m_enL σ e f dy n 0 w
  | 0 => hw
  | n + 1 => by
    rw [enL_step, c_enD, enD_eq hw n, Nat.zero_add]
theorem enA_eq (hI : InvM σ) (hJ : InvJ σ) {e f dy : Int32} : k_entry σ e f dy = m_entry σ e f dy := by
  unfold k_entry m_entry
  have e8 : (!decide (f < 8)) = decide (7 < f) := by
    rw [← decide_not]
    apply decide_eq_decide.mpr
    rw [i_lt, i_lt]
    have e1 : (8 : Int32).toInt = 8 := rfl
    have e2 : (7 : Int32).toInt = 7 := rfl
    omega
  have eb : c_enBad σ e f dy = m_enBad σ e f dy := by
    unfold c_enBad m_enBad
    rw [e8]
    unfold m_in
    cases decide (e < 0) <;> cases decide (σ 30 0 - 1 < e) <;> cases decide (f < 0) <;> cases decide (7 < f) <;> cases decide (dy < gR σ 200 e 0) <;> cases decide (σ 0 0 < dy) <;> rfl
  rw [eb]
  cases h : m_enBad σ e f dy
  · unfold m_enBad at h
    simp only [Bool.or_eq_false_iff, Bool.not_eq_false'] at h
    exact enD_eq (wr_eq hJ hI (okE_of hI h.1.1) h.1.2) _
  · rfl
end EQ
