theorem m_def_1 {j : Nat} (h : nI j = 5) (hj : j < 8) : (1 : Int32) = m_def j := by
  have h2 : nI j = nI 5 := h
  rw [nI_eq (by omega) (by omega)] at h2
  subst h2; rfl
theorem m_def_0 {j : Nat} (h : ¬ nI j = 5) : (0 : Int32) = m_def j := by
  unfold m_def
  rw [if_neg (fun e => h (by subst e; rfl))]
theorem m_def_step {gs : Nat → Int32} {j : Nat} {x : Int32} (h : ∀ w, w < j → gs w = m_def w) (hj : j < 8) (hx : x = m_def j) : ∀ w, w < j + 1 → upd gs (nI j).toNatClampNeg x w = m_def w := by
  intro w hw
  rw [nI_clamp (by omega)]
  by_cases e : w = j
  · subst e; rw [pk_us]; exact hx
  · rw [pk_un e]; exact h w (by omega)
theorem m_best_in {σ : St} {land day : Int32} : ∀ (f k : Nat) (b : Int32), k + f = nn σ 2 → (b = -1 ∨ ∃ j, j < nn σ 2 ∧ b = nI j) → (m_ifL σ land day f k b = -1 ∨ ∃ j, j < nn σ 2 ∧ m_ifL σ land day f k b = nI j)
  | 0, _, _, _, h => h
  | f + 1, k, b, hk, h => by
    rw [m_ifL]
    refine m_best_in f (k + 1) _ (by omega) ?_
    by_cases e : m_ifC σ land day (nI k) b = true
    · rw [if_pos e]; exact Or.inr ⟨k, by omega, rfl⟩
    · rw [if_neg e]; exact h
theorem okPN_of {σ : St} {x : Int32} (h : okPN σ x) (n : ¬ x = -1) : okP σ x := h.resolve_left n
theorem fa_ok {σ : St} {p : Int32} (hI : InvM σ) (h : okP σ p) : okPN σ (gA σ 6 p) := (hI.2.1 _ (okP_lt h)).1
theorem mo_ok {σ : St} {p : Int32} (hI : InvM σ) (h : okP σ p) : okPN σ (gA σ 7 p) := (hI.2.1 _ (okP_lt h)).2.1
theorem sp_ok {σ : St} {p : Int32} (hI : InvM σ) (h : okP σ p) : okPN σ (gA σ 10 p) := (hI.2.1 _ (okP_lt h)).2.2
theorem pa_ok {σ : St} {p w : Int32} (hI : InvM σ) (h : okP σ p) : okPN σ (m_parent σ p w) := by
  unfold m_parent
  by_cases e : w = 0
  · rw [if_pos (decide_eq_true e)]; exact fa_ok hI h
  · rw [if_neg (by simp [e])]; exact mo_ok hI h
theorem one_ok {σ : St} {n : Int32} (hI : InvM σ) (h : okN σ n) : okP σ (gA σ 17 n) := (hI.2.2.1 _ (okN_lt h)).1
theorem oth_ok {σ : St} {n : Int32} (hI : InvM σ) (h : okN σ n) : okP σ (gA σ 18 n) := (hI.2.2.1 _ (okN_lt h)).2.1
theorem pos_ok {σ : St} {n : Int32} (hI : InvM σ) (h : okN σ n) : bnd (gA σ 19 n) 20000 := (hI.2.2.1 _ (okN_lt h)).2.2
def okD (d : Int32) : Prop := 0 ≤ d.toInt ∧ d.toInt ≤ 20000
theorem okD_in {d : Int32} (h : okD d) : vp_in d 20001 := vi_of h.1 (by have := h.2; omega)
theorem okD_of {d : Int32} (h : m_in d 0 20000 = true) : okD d := m_in_iff.mp h
theorem nI_okN {σ : St} {k : Nat} (hI : InvM σ) (h : k < nn σ 23) : okN σ (nI k) := by
  have h1 := cnt_le (N := 60) hI.1.2.2.2.2.1
  have h2 := i_clamp hI.1.2.2.2.2.1.1
  have h3 := nI_toInt (n := k) (by omega)
  refine ⟨by omega, ?_⟩
  rw [h3]
  show (k : Int) < _
  have : k < (σ 23 0).toNatClampNeg := h
  omega
