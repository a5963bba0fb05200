theorem m_def_1 {j : Nat} (h : nI j = 5) (hj : j < 8) : (1 : Int32) = m_def j := by
  have h2 : nI j = nI 5 := h
  rw [nI_eq (by omega) (by omega)] at h2
  subst h2; rfl
theorem m_def_0 {j : Nat} (h : ¬ nI j = 5) : (0 : Int32) = m_def j := by
  unfold m_def
  rw [if_neg (fun e => h (by subst e; rfl))]
theorem m_def_step {gs : Nat → Int32} {j : Nat} {x : Int32} (h : ∀ w, w < j → gs w = m_def w) (hj : j < 8) (hx : x = m_def j) : ∀ w, w < j + 1 → upd gs (nI j).toNatClampNeg x w = m_def w := by
  intro w hw
  rw [nI_clamp (by omega)]
  by_cases e : w = j
  · subst e; rw [pk_us]; exact hx
  · rw [pk_un e]; exact h w (by omega)
theorem m_best_in {σ : St} {land day : Int32} : ∀ (f k : Nat) (b : Int32), k + f = nn σ 2 → (b = -1 ∨ ∃ j, j < nn σ 2 ∧ b = nI j) → (m_ifL σ land day f k b = -1 ∨ ∃ j, j < nn σ 2 ∧ m_ifL σ land day f k b = nI j)
  | 0, _, _, _, h => h
  | f + 1, k, b, hk, h => by
    rw [m_ifL]
    refine m_best_in f (k + 1) _ (by omega) ?_
    by_cases e : m_ifC σ land day (nI k) b = true
    · rw [if_pos e]; exact Or.inr ⟨k, by omega, rfl⟩
    · rw [if_neg e]; exact h
theorem okPN_of {σ : St} {x : Int32} (h : okPN σ x) (n : ¬ x = -1) : okP σ x := h.resolve_left n
theorem fa_ok {σ : St} {p : Int32} (hI : InvM σ) (h : okP σ p) : okPN σ (gA σ 6 p) := (hI.2.1 _ (okP_lt h)).1
theorem mo_ok {σ : St} {p : Int32} (hI : InvM σ) (h : okP σ p) : okPN σ (gA σ 7 p) := (hI.2.1 _ (okP_lt h)).2.1
theorem sp_ok {σ : St} {p : Int32} (hI : InvM σ) (h : okP σ p) : okPN σ (gA σ 10 p) := (hI.2.1 _ (okP_lt h)).2.2
theorem pa_ok {σ : St} {p w : Int32} (hI : InvM σ) (h : okP σ p) : okPN σ (m_parent σ p w) := by
  unfold m_parent
  by_cases e : w = 0
  · rw [if_pos (decide_eq_true e)]; exact fa_ok hI h
  · rw [if_neg (by simp [e])]; exact mo_ok hI h
theorem one_ok {σ : St} {n : Int32} (hI : InvM σ) (h : okN σ n) : okP σ (gA σ 17 n) := (hI.2.2.1 _ (okN_lt h)).1
theorem oth_ok {σ : St} {n : Int32} (hI : InvM σ) (h : okN σ n) : okP σ (gA σ 18 n) := (hI.2.2.1 _ (okN_lt h)).2.1
theorem pos_ok {σ : St} {n : Int32} (hI : InvM σ) (h : okN σ n) : bnd (gA σ 19 n) 20000 := (hI.2.2.1 _ (okN_lt h)).2.2
def okD (d : Int32) : Prop := 0 ≤ d.toInt ∧ d.toInt ≤ 20000
theorem okD_in {d : Int32} (h : okD d) : vp_in d 20001 := vi_of h.1 (by have := h.2; omega)
theorem okD_of {d : Int32} (h : m_in d 0 20000 = true) : okD d := m_in_iff.mp h
theorem nI_okN {σ : St} {k : Nat} (hI : InvM σ) (h : k < nn σ 23) : okN σ (nI k) := by
  have h1 := cnt_le (N := 60) hI.1.2.2.2.2.1
  have h2 := i_clamp hI.1.2.2.2.2.1.1
  have h3 := nI_toInt (n := k) (by omega)
  refine ⟨by omega, ?_⟩
  rw [h3]
  show (k : Int) < _
  have : k < (σ 23 0).toNatClampNeg := h
  omega
theorem sA_lt {σ : St} {t j k : Nat} {v : Int32} (h : k < t) : sA σ t j v k = σ k := if_neg (by omega)
theorem cnt_in {x d : Int32} {N : Nat} (h : bnd x N) (hd : d.toInt = N) (hne : ¬ x = d) : vp_in x N := by
  refine vi_of h.1 ?_
  have h1 := h.2
  rw [i_eq, hd] at hne
  omega
theorem okD_nI {d : Nat} (h : d ≤ 20000) : okD (nI d) := by
  have := nI_toInt (n := d) (by omega)
  exact ⟨by omega, by omega⟩
theorem bnd_nI {x : Int32} {N : Int} (h : bnd x N) : x = nI x.toNatClampNeg := by
  have h1 := i_clamp h.1
  have h2 := i_rng x
  rw [i_eq, nI_toInt (by omega)]
  omega
theorem bnd_le {x : Int32} {N : Nat} (h : bnd x N) : x.toNatClampNeg ≤ N := by
  have h1 := i_clamp h.1
  have := h.2
  omega
theorem o_in {σ : St} {o : Int32} (hI : InvM σ) (h : m_in o 0 (σ 26 0 - 1) = true) : vp_in o 60 := by
  have h1 := m_in_iff.mp h
  rw [cnt_pred hI.1.2.2.2.2.2.1] at h1
  have := hI.1.2.2.2.2.2.1.2
  exact vi_of h1.1 (by omega)
theorem e_in {σ : St} {o : Int32} (hI : InvM σ) (h : m_in o 0 (σ 30 0 - 1) = true) : vp_in o 60 := by
  have h1 := m_in_iff.mp h
  rw [cnt_pred hI.1.2.2.2.2.2.2.2.1] at h1
  have := hI.1.2.2.2.2.2.2.2.1.2
  exact vi_of h1.1 (by omega)
theorem rm_rng {x : Int32} (h : ¬ x < 0) : 0 ≤ (rm x 10).toInt ∧ (rm x 10).toInt < 10 := by
  obtain ⟨j, hj, rfl⟩ := nI_of h
  have e : rm (nI j) 10 = nI (j % 10) := pk_rem (d := 10) hj (by decide) (by decide)
  rw [e, nI_toInt (by omega)]
  omega
def okR (σ : St) (r : Int32) : Prop := 0 ≤ r.toInt ∧ r.toInt < (σ 28 0).toInt
theorem okR_in {σ : St} {r : Int32} (hI : InvM σ) (h : okR σ r) : vp_in r 6 := vi_of h.1 (by have := hI.1.2.2.2.2.2.2.1.2; have := h.2; omega)
theorem okR_rm {σ : St} {x : Int32} (h : ¬ x < 0) (h2 : ¬ σ 28 0 ≤ rm x 10) : okR σ (rm x 10) := by
  have h1 := rm_rng h
  rw [i_le] at h2
  exact ⟨h1.1, by omega⟩
theorem okR_nI {σ : St} {r : Nat} (hI : InvM σ) (h : r < nn σ 28) : okR σ (nI r) := by
  have h1 := cnt_le (N := 6) hI.1.2.2.2.2.2.2.1
  have h2 := i_clamp hI.1.2.2.2.2.2.2.1.1
  have h3 := nI_toInt (n := r) (by omega)
  have h4 : r < (σ 28 0).toNatClampNeg := h
  exact ⟨by omega, by omega⟩
theorem okD_now {σ : St} {d : Int32} (hI : InvM σ) (h : m_in d (σ 0 0) 20000 = true) : okD d := by
  have h1 := m_in_iff.mp h
  have h2 := hI.1.1.1
  exact ⟨by omega, h1.2⟩
theorem okD_n {σ : St} (hI : InvM σ) : okD (σ 0 0) := hI.1.1
theorem gA_lt {σ : St} {t j k : Nat} {v i : Int32} (h : k < t) : gA (sA σ t j v) k i = gA σ k i := by unfold gA; rw [sA_lt h]
def okE (σ : St) (e : Int32) : Prop := 0 ≤ e.toInt ∧ e.toInt < (σ 30 0).toInt
theorem okE_of {σ : St} {o : Int32} (hI : InvM σ) (h : m_in o 0 (σ 30 0 - 1) = true) : okE σ o := by
  have h1 := m_in_iff.mp h
  rw [cnt_pred hI.1.2.2.2.2.2.2.2.1] at h1
  exact ⟨h1.1, by omega⟩
theorem okE_in {σ : St} {e : Int32} (hI : InvM σ) (h : okE σ e) : vp_in e 60 := vi_of h.1 (by have := hI.1.2.2.2.2.2.2.2.1.2; have := h.2; omega)
theorem okE_lt {σ : St} {p : Int32} (h : okE σ p) : p.toNatClampNeg < nn σ 30 := by
  have h1 := i_clamp h.1
  have h2 := i_clamp (x := σ 30 0) (by have := h.1; have := h.2; omega)
  have := h.2
  show p.toNatClampNeg < (σ 30 0).toNatClampNeg
  omega
theorem in01 {x : Int32} (h : m_in x 0 1 = true) : x = 0 ∨ x = 1 := by
  have h1 := m_in_iff.mp h
  have e0 : (0 : Int32).toInt = 0 := rfl
  have e1 : (1 : Int32).toInt = 1 := rfl
  rw [i_eq, i_eq]
  omega
theorem okEP {σ : St} {e b : Int32} (hI : InvM σ) (h : okE σ e) (hb : b = 0 ∨ b = 1) : okP σ (gR σ 200 e (5 + b).toNatClampNeg) := by
  rcases hb with rfl | rfl
  · exact (hI.2.2.2 _ (okE_lt h)).1
  · exact (hI.2.2.2 _ (okE_lt h)).2
theorem in07 {x : Int32} (h : m_in x 0 7 = true) : vp_in x 8 := by
  have h1 := m_in_iff.mp h
  have e0 : (0 : Int32).toInt = 0 := rfl
  have e1 : (7 : Int32).toInt = 7 := rfl
  exact vi_of (by omega) (by omega)
theorem invM_of {σ τ : St} (h : InvM σ) (e : ∀ k, k = 0 ∨ k = 2 ∨ k = 6 ∨ k = 7 ∨ k = 10 ∨ k = 11 ∨ k = 15 ∨ k = 17 ∨ k = 18 ∨ k = 19 ∨ k = 23 ∨ k = 26 ∨ k = 28 ∨ k = 30 ∨ k = 35 ∨ 200 ≤ k → τ k = σ k) : InvM τ := by
  have eE : ∀ i, τ (200 + i) = σ (200 + i) := fun i => e _ (by omega)
  have e0 := e 0 (by omega); have e2 := e 2 (by omega); have e6 := e 6 (by omega); have e7 := e 7 (by omega); have e10 := e 10 (by omega); have e11 := e 11 (by omega); have e15 := e 15 (by omega); have e17 := e 17 (by omega); have e18 := e 18 (by omega); have e19 := e 19 (by omega); have e23 := e 23 (by omega); have e26 := e 26 (by omega); have e28 := e 28 (by omega); have e30 := e 30 (by omega); have e35 := e 35 (by omega)
  simp only [InvM, okP, okPN, bnd, nn, e0, e2, e6, e7, e10, e11, e15, e17, e18, e19, e23, e26, e28, e30, e35, eE] at h ⊢
  exact h
theorem sA_ne {σ : St} {t j k : Nat} {v : Int32} (h : k ≠ t) : sA σ t j v k = σ k := if_neg h
theorem invM_bo {σ : St} {n day x : Int32} (h : InvM σ) : InvM (m_boS σ n day x) := invM_of h (fun k hk => by unfold m_boS; rw [sA_ne (by omega), sA_ne (by omega)])
theorem invM_fin {σ : St} {n day : Int32} (h : InvM σ) : InvM (m_finS σ n day) ∧ m_finS σ n day 23 0 = σ 23 0 ∧ m_finS σ n day 0 0 = σ 0 0 := by
  unfold m_finS
  cases m_find σ n day with
  | none => exact ⟨h, rfl, rfl⟩
  | some x => exact ⟨invM_bo h, rfl, rfl⟩
