/-! THE CLASS'S METHODS as functions of the numbers -/
theorem isP_eq {σ : St} {x : Int32} (hI : InvM σ) : m_isP σ x = (!decide (x < 0) && decide (x < σ 11 0)) := by
  have h := cnt_pred hI.1.2.2.1
  have e0 : (0 : Int32).toInt = 0 := rfl
  unfold m_isP m_in
  congr 1
  rw [← decide_not]
  apply decide_eq_decide.mpr
  rw [i_lt, i_lt, h]
  omega
theorem isN_eq {σ : St} {x : Int32} (hI : InvM σ) : m_isN σ x = (!decide (x < 0) && decide (x < σ 23 0)) := by
  have h := cnt_pred hI.1.2.2.2.2.1
  unfold m_isN m_in
  congr 1
  rw [← decide_not]
  apply decide_eq_decide.mpr
  rw [i_lt, i_lt, h]
  omega
theorem isE_eq {σ : St} {x : Int32} (hI : InvM σ) : m_in x 0 (σ 30 0 - 1) = (!decide (x < 0) && decide (x < σ 30 0)) := by
  have h := cnt_pred hI.1.2.2.2.2.2.2.2.1
  unfold m_in
  congr 1
  rw [← decide_not]
  apply decide_eq_decide.mpr
  rw [i_lt, i_lt, h]
  omega
theorem in_ok {σ : St} {t : Nat} {x : Int32} (h1 : ¬ x < 0) (h2 : ¬ σ t 0 ≤ x) : 0 ≤ x.toInt ∧ x.toInt < (σ t 0).toInt := by
  rw [i_lt] at h1
  rw [i_le] at h2
  have e0 : (0 : Int32).toInt = 0 := rfl
  exact ⟨by omega, by omega⟩
def c_cbp (σ : St) (f m : Int32) : Bool := (decide (f = -1) || m_isP σ f) && ((decide (m = -1) || m_isP σ m) && (decide (f = -1) || !decide (f = m)))
def c_isOf (σ : St) (x a b : Int32) : Bool := (decide (gA σ 17 x = a) && decide (gA σ 18 x = b)) || (decide (gA σ 17 x = b) && decide (gA σ 18 x = a))
def c_child (σ : St) (x y : Int32) : Bool := decide (gA σ 6 x = y) || decide (gA σ 7 x = y)
def c_shares (σ : St) (x y : Int32) : Bool := (!decide (gA σ 6 x = -1) && decide (gA σ 6 x = gA σ 6 y)) || (!decide (gA σ 7 x = -1) && decide (gA σ 7 x = gA σ 7 y))
/-- the law of number b, or none -/
def lawA (L : Nat → Nat → Nat) (b : Int32) : Nat := if b = -1 then L 5 0 else L 20 b.toNatClampNeg
def lf (σ : St) (b : Int32) (j : Nat) (d : Int32) : Int32 := if b = -1 then d else gR σ 100 b j
def c_ifC (σ : St) (land day k b : Int32) : Bool := decide (gR σ 100 k 0 = land) && (!decide (day < gR σ 100 k 1) && !decide (gR σ 100 k 1 < lf σ b 1 (-1)))
section CSPEC
variable {E : EV} {A : Nat → Prop} {σ : St} {L : Nat → Nat → Nat} {H H1 : Heap}
theorem cd_lex (h : Cd E A σ L H) {j : Nat} (hj : j < 6 + nn σ 11) : ∃ fs : List Value, ob E (L 9 j) 0 fs H := by
  obtain ⟨md, ar, cap, h1, -⟩ := cd_lst h hj
  exact ⟨_, h1⟩
theorem cd_lawA (h : Cd E A σ L H) {b : Int32} (hb : b = -1 ∨ okL σ b) : ob E (lawA L b) 5 [.int (lf σ b 0 (-1)), .int (lf σ b 1 (-1)), .int (lf σ b 2 0), .int (lf σ b 3 0), .int (lf σ b 4 0), .int (lf σ b 7 0), .int (lf σ b 5 1), .int (lf σ b 6 0)] H := by
  by_cases e : b = -1
  · simp only [lawA, lf, if_pos e]; exact cd_na h
  · simp only [lawA, lf, if_neg e]; exact cd_law h (ok_lt (t := 2) (hb.resolve_left e))
theorem best_ok {ld dy : Int32} (hI : InvM σ) : m_best σ ld dy = -1 ∨ okL σ (m_best σ ld dy) := by
  rcases m_best_in (σ := σ) (land := ld) (day := dy) (nn σ 2) 0 (-1) (by omega) (Or.inl rfl) with h | ⟨j, hj, h⟩
  · exact Or.inl h
  · refine Or.inr ?_
    have e : m_best σ ld dy = nI j := h
    rw [e]
    exact ok_nI hI.1.2.1 hj
theorem lf_ask {ld dy d : Int32} {j : Nat} (hd : d = m_def j) : lf σ (m_best σ ld dy) j d = m_ask σ ld dy j := by
  unfold lf m_ask
  by_cases e : m_best σ ld dy = -1
  · rw [if_pos e, if_pos (by simp [e]), hd]
  · rw [if_neg e, if_neg (by simp [e])]
theorem cd_lawR (h : Cd E A σ L H) (hI : InvM σ) (ld dy : Int32) : ob E (lawA L (m_best σ ld dy)) 5 [.int (lf σ (m_best σ ld dy) 0 (-1)), .int (lf σ (m_best σ ld dy) 1 (-1)), .int (m_ask σ ld dy 2), .int (m_ask σ ld dy 3), .int (m_ask σ ld dy 4), .int (m_ask σ ld dy 7), .int (m_ask σ ld dy 5), .int (m_ask σ ld dy 6)] H := by
  have h1 := cd_lawA h (best_ok (ld := ld) (dy := dy) hI)
  rw [lf_ask (j := 2) (d := 0) rfl, lf_ask (j := 3) (d := 0) rfl, lf_ask (j := 4) (d := 0) rfl, lf_ask (j := 7) (d := 0) rfl, lf_ask (j := 5) (d := 1) rfl, lf_ask (j := 6) (d := 0) rfl] at h1
  exact h1
end CSPEC
/-- laws begin on days that aren't below 0 -/
def InvL (σ : St) : Prop := ∀ i, i < nn σ 2 → 0 ≤ (σ (100 + i) 1).toInt
theorem ifC_eq {σ : St} {land day b : Int32} {k : Nat} (hI : InvM σ) (hL : InvL σ) (hk : k < nn σ 2) : c_ifC σ land day (nI k) b = m_ifC σ land day (nI k) b := by
  unfold c_ifC m_ifC lf
  have hn := cnt_le (N := 60) hI.1.2.1
  by_cases e : b = -1
  · have h1 : ¬ gR σ 100 (nI k) 1 < -1 := by
      have h2 := hL k hk
      have e1 : gR σ 100 (nI k) 1 = σ (100 + k) 1 := by unfold gR; rw [nI_clamp (by omega)]
      rw [i_lt, e1]
      have : (-1 : Int32).toInt = -1 := rfl
      omega
    simp [e, h1]
  · simp [e]
