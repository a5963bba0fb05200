/-! HANGING: the class's count is the reference's -/
def fr_ (σ : St) (d : Nat) : Bool := m_isFree σ (nI d)
theorem fr_eq {σ : St} {d : Nat} (h : d ≤ 20001) : fr_ σ d = (!decide (d % 7 = 6) && decide (σ 16 d = 0)) := by
  unfold fr_ m_isFree gA
  have e : rm (nI d) 7 = nI (d % 7) := pk_rem (d := 7) (by omega) (by decide) (by decide)
  rw [e, nI_clamp (by omega)]
  congr 2
  apply decide_eq_decide.mpr
  rw [show (6 : Int32) = nI 6 from rfl, nI_eq (by omega) (by omega)]
theorem fcnt {σ : St} (hF : InvF σ) : ∀ n, n ≤ 20001 → cntN (fr_ σ) n + ah σ n = n
  | 0, _ => rfl
  | n + 1, h => by
    have ih := fcnt hF n (by omega)
    unfold ah tcnt at ih ⊢
    rw [cntN, cntN, fr_eq (by omega)]
    rcases hF n (by omega) with e | e
    · rw [decide_eq_true e]
      by_cases c : n % 7 = 6
      · rw [decide_eq_true c]
        simp only [Bool.not_true, Bool.false_and, Bool.false_eq_true, if_false]
        omega
      · rw [decide_eq_false c]
        simp only [Bool.not_true, Bool.not_false, Bool.true_and, Bool.false_eq_true, if_false, if_true]
        omega
    · rw [decide_eq_false e]
      by_cases c : σ 16 n = 0
      · rw [decide_eq_true c]
        simp only [Bool.not_true, Bool.not_false, Bool.true_and, Bool.false_eq_true, if_false, if_true]
        omega
      · rw [decide_eq_false c]
        simp only [Bool.not_false, Bool.and_false, Bool.false_eq_true, if_false, if_true]
        omega
theorem huL_eq {σ : St} : ∀ (f d c x : Nat), cntN (fr_ σ) d + x = cntN (fr_ σ) (d + f) → m_huL σ f d (nI c) = nI (c + x)
  | 0, d, c, x, h => by
    have : x = 0 := by rw [Nat.add_zero] at h; omega
    rw [this]; rfl
  | f + 1, d, c, x, h => by
    rw [m_huL]
    have e1 : cntN (fr_ σ) (d + 1) = cntN (fr_ σ) d + (if fr_ σ d then 1 else 0) := rfl
    rw [show d + (f + 1) = d + 1 + f by omega] at h
    have h2 : bI (m_isFree σ (nI d)) = nI (if fr_ σ d then 1 else 0) := by
      unfold bI
      show (if fr_ σ d = true then (1 : Int32) else 0) = _
      cases fr_ σ d <;> rfl
    have h3 : cntN (fr_ σ) (d + 1) ≤ cntN (fr_ σ) (d + 1 + f) := by have := cnt_add (fr_ σ) (d + 1) f; omega
    rw [h2, nI_add, huL_eq f (d + 1) _ (cntN (fr_ σ) (d + 1 + f) - cntN (fr_ σ) (d + 1)) (by omega)]
    congr 1
    omega
theorem hung_eq {σ : St} {n d : Int32} (hI : InvM σ) (hF : InvF σ) (hn : okN σ n) (hd : okD d) : c_wdb σ (gA σ 19 n) d = m_hung σ n d := by
  have hp := pos_ok hI hn
  obtain ⟨p1, p2⟩ := okD_n' (x := gA σ 19 n) hp
  obtain ⟨d1, d2⟩ := okD_n' hd
  unfold m_hung
  generalize hP : (gA σ 19 n).toNatClampNeg = P at *
  generalize hD : d.toNatClampNeg = D at *
  have eP : (gA σ 19 n).toInt = P := by rw [p2, nI_toInt (by omega)]
  have eD : d.toInt = D := by rw [d2, nI_toInt (by omega)]
  have e1 : (1 : Int32).toInt = 1 := rfl
  have eP1 : (gA σ 19 n + 1).toInt = P + 1 := by rw [i_add (by omega) (by omega)]; omega
  unfold c_wdb
  by_cases c : gA σ 19 n + 1 < d
  · rw [decide_eq_true c, hD]
    rw [i_lt] at c
    have hP1 : (gA σ 19 n + 1).toNatClampNeg = P + 1 := by
      have := i_clamp (x := gA σ 19 n + 1) (by omega)
      omega
    rw [hP1]
    have f1 := fcnt hF D (by omega)
    have f2 := fcnt hF (P + 1) (by omega)
    have f3 : cntN (fr_ σ) (P + 1) ≤ cntN (fr_ σ) (P + 1 + (D - (P + 1))) := by have := cnt_add (fr_ σ) (P + 1) (D - (P + 1)); omega
    rw [show P + 1 + (D - (P + 1)) = D by omega] at f3
    rw [show (0 : Int32) = nI 0 from rfl, huL_eq (D - (P + 1)) (P + 1) 0 (cntN (fr_ σ) D - cntN (fr_ σ) (P + 1)) (by rw [show P + 1 + (D - (P + 1)) = D by omega]; omega)]
    show d - gA σ 19 n - 1 - (nI (ah σ D) - nI (ah σ (P + 1))) = _
    rw [i_eq, nI_toInt (by omega)]
    have a1 : (nI (ah σ D)).toInt = (ah σ D : Nat) := nI_toInt (by omega)
    have a2 : (nI (ah σ (P + 1))).toInt = (ah σ (P + 1) : Nat) := nI_toInt (by omega)
    have s1 : (nI (ah σ D) - nI (ah σ (P + 1))).toInt = (ah σ D : Int) - ah σ (P + 1) := by rw [i_sub (by omega) (by omega), a1, a2]
    have s2 : (d - gA σ 19 n).toInt = (D : Int) - P := by rw [i_sub (by omega) (by omega), eP, eD]
    have s3 : (d - gA σ 19 n - 1).toInt = (D : Int) - P - 1 := by rw [i_sub (by omega) (by omega), s2, e1]
    rw [i_sub (by omega) (by omega), s3, s1]
    omega
  · rw [decide_eq_false c]
    rw [i_lt] at c
    rw [show D - (P + 1) = 0 by omega]
    rfl
theorem hungA_eq {σ : St} {n d : Int32} (hI : InvM σ) (hF : InvF σ) : k_hung σ n d = m_hungA σ n d := by
  unfold k_hung m_hungA
  cases h1 : m_isN σ n
  · simp only [Bool.false_and, Bool.false_eq_true, if_false]
  · cases h2 : m_in d 0 20000
    · simp only [Bool.and_false, Bool.false_eq_true, if_false]
    · rw [hung_eq hI hF (isN_ok hI h1) (okD_of h2)]
theorem ripe_eq {σ : St} {n d : Int32} (hI : InvM σ) (hF : InvF σ) (hO : InvO σ) (hn : okN σ n) (hd : okD d) (hp : (gA σ 19 n).toInt ≤ d.toInt) : c_ripeOn σ n d = m_isRipe σ n d := by
  unfold c_ripeOn m_isRipe
  have h := hO _ (okN_lt hn)
  rw [nI_ok hn.1] at h
  rw [hung_eq hI hF hn hd, show gA σ 93 n = m_objd σ n from h, decide_eq_false (show ¬ d < gA σ 19 n by rw [i_lt]; omega), Bool.not_false, Bool.true_and, Bool.and_comm]
