/-! WHAT THE NUMBERS KEEP TO -/
def InvK (σ : St) : Prop := (∀ x, okP σ x → ∀ q, okQ σ x q → gA σ 12 (gP σ x q) = x) ∧ ∀ k, k < nn σ 15 → okP σ (σ 12 k) ∧ ∃ q, okQ σ (σ 12 k) q ∧ gP σ (σ 12 k) q = nI k
def InvO (σ : St) : Prop := ∀ i, i < nn σ 23 → σ 93 i = m_objd σ (nI i)
def InvD (σ : St) : Prop := ∀ i, i < nn σ 23 → ¬ σ 17 i = σ 18 i ∧ (σ 19 i).toInt ≤ (σ 0 0).toInt
def InvF (σ : St) : Prop := ∀ d, d ≤ 20000 → σ 16 d = 0 ∨ d % 7 ≠ 6
def InvW (σ : St) : Prop := cntN (fun i => decide (σ 20 i = 1)) (nn σ 23) = nn σ 30
def InvN (σ : St) : Prop := ∀ i, i < nn σ 2 → σ (100 + i) 7 = 0 ∨ σ (100 + i) 7 = 1 ∨ σ (100 + i) 7 = 2
/-- a booked slot: hour, hall, registrar -/
def sOK (x : Int32) : Prop := 8 ≤ (x / 100).toInt ∧ (x / 100).toInt ≤ 17 ∧ 0 ≤ (rm (x / 10) 10).toInt ∧ (rm (x / 10) 10).toInt ≤ 3 ∧ 0 ≤ (rm x 10).toInt ∧ (rm x 10).toInt < 6
def InvB (σ : St) : Prop := (∀ i, i < nn σ 23 → σ 21 i = -1 ∨ (0 ≤ (σ 21 i).toInt ∧ sOK (σ 22 i))) ∧ ∀ i j, i < nn σ 23 → j < nn σ 23 → i ≠ j → ¬ σ 21 i = -1 → σ 21 i = σ 21 j → ¬ (σ 22 i / 100 = σ 22 j / 100 ∧ rm (σ 22 i) 10 = rm (σ 22 j) 10)
def Inv (σ : St) : Prop := InvM σ ∧ InvL σ ∧ InvP σ ∧ InvJ σ ∧ InvZ σ ∧ InvQ σ ∧ InvK σ ∧ InvO σ ∧ InvD σ ∧ InvF σ ∧ InvW σ ∧ InvN σ ∧ InvB σ
section INVOF
variable {σ τ : St}
theorem invM_of' (h : InvM σ) (e : ∀ k, k = 0 ∨ k = 2 ∨ k = 6 ∨ k = 7 ∨ k = 10 ∨ k = 11 ∨ k = 15 ∨ k = 17 ∨ k = 18 ∨ k = 19 ∨ k = 23 ∨ k = 26 ∨ k = 28 ∨ k = 30 ∨ k = 35 ∨ (200 ≤ k ∧ k < 400) → τ k = σ k) : InvM τ := by
  have h30 := cnt_le (N := 60) h.1.2.2.2.2.2.2.2.1
  have e0 := e 0 (by omega); have e2 := e 2 (by omega); have e6 := e 6 (by omega); have e7 := e 7 (by omega); have e10 := e 10 (by omega); have e11 := e 11 (by omega); have e15 := e 15 (by omega); have e17 := e 17 (by omega); have e18 := e 18 (by omega); have e19 := e 19 (by omega); have e23 := e 23 (by omega); have e26 := e 26 (by omega); have e28 := e 28 (by omega); have e30 := e 30 (by omega); have e35 := e 35 (by omega)
  have n30 : nn τ 30 = nn σ 30 := by unfold nn; rw [e30]
  refine ⟨?_, ?_, ?_, fun i hi => ?_⟩
  · have := h.1
    rw [e0, e2, e11, e15, e23, e26, e28, e30, e35]
    exact this
  · have := h.2.1
    simp only [okP, okPN, nn, e6, e7, e10, e11] at this ⊢
    exact this
  · have := h.2.2.1
    simp only [okP, nn, e11, e17, e18, e19, e23] at this ⊢
    exact this
  · rw [n30] at hi
    have := h.2.2.2 i hi
    rw [e (200 + i) (by omega)]
    unfold okP
    rw [e11]
    exact this
theorem invJ_of' (hI : InvM σ) (h : InvJ σ) (e : ∀ k, k = 17 ∨ k = 18 ∨ k = 23 ∨ k = 24 ∨ k = 26 ∨ k = 30 ∨ (200 ≤ k ∧ k < 400) → τ k = σ k) : InvJ τ := by
  have h30 := cnt_le (N := 60) hI.1.2.2.2.2.2.2.2.1
  have e17 := e 17 (by omega); have e18 := e 18 (by omega); have e23 := e 23 (by omega); have e24 := e 24 (by omega); have e26 := e 26 (by omega); have e30 := e 30 (by omega)
  have n30 : nn τ 30 = nn σ 30 := by unfold nn; rw [e30]
  refine ⟨fun i hi => ?_, ?_⟩
  · rw [n30] at hi
    have := h.1 i hi
    rw [e (200 + i) (by omega)]
    unfold okN gA
    rw [e17, e18, e23]
    exact this
  · have := h.2
    simp only [okN, nn, e23, e24, e26] at this ⊢
    exact this
theorem invZ_of (h : InvZ σ) (e : ∀ k, k = 20 ∨ k = 23 ∨ k = 25 ∨ k = 26 → τ k = σ k) : InvZ τ := by
  have e1 := e 20 (by omega); have e2 := e 23 (by omega); have e3 := e 25 (by omega); have e4 := e 26 (by omega)
  simp only [InvZ, nn, e1, e2, e3, e4] at h ⊢
  exact h
theorem invQ_of (h : InvQ σ) (e : ∀ k, k = 11 ∨ k = 15 ∨ k = 94 → τ k = σ k) : InvQ τ := by
  have e1 := e 11 (by omega); have e2 := e 15 (by omega); have e3 := e 94 (by omega)
  simp only [InvQ, okP, gA, e1, e2, e3] at h ⊢
  exact h
theorem invK_of (h : InvK σ) (e : ∀ k, k = 11 ∨ k = 12 ∨ k = 15 ∨ k = 94 ∨ 400 ≤ k → τ k = σ k) : InvK τ := by
  have e1 := e 11 (by omega); have e2 := e 15 (by omega); have e3 := e 94 (by omega); have e4 := e 12 (by omega)
  have eP : ∀ x q, gP τ x q = gP σ x q := fun x q => by unfold gP; rw [e _ (by omega)]
  simp only [InvK, okP, okQ, nn, gA, e1, e2, e3, e4, eP] at h ⊢
  exact h
theorem obL_of {n : Int32} (e24 : τ 24 = σ 24) (e25 : τ 25 = σ 25) : ∀ (f k : Nat) (r : Int32), m_obL τ n f k r = m_obL σ n f k r
  | 0, _, _ => rfl
  | f + 1, k, r => by
    rw [m_obL, m_obL, obL_of e24 e25 f]
    unfold gA
    rw [e24, e25]
theorem invO_of (h : InvO σ) (e : ∀ k, k = 23 ∨ k = 24 ∨ k = 25 ∨ k = 26 ∨ k = 93 → τ k = σ k) : InvO τ := by
  have e1 := e 23 (by omega); have e2 := e 26 (by omega); have e3 := e 93 (by omega)
  intro i hi
  have hi' : i < nn σ 23 := by unfold nn at hi ⊢; rw [e1] at hi; exact hi
  have := h i hi'
  rw [e3, this]
  unfold m_objd nn
  rw [e2, obL_of (e 24 (by omega)) (e 25 (by omega))]
theorem invD_of (h : InvD σ) (e : ∀ k, k = 0 ∨ k = 17 ∨ k = 18 ∨ k = 19 ∨ k = 23 → τ k = σ k) : InvD τ := by
  have e1 := e 0 (by omega); have e2 := e 17 (by omega); have e3 := e 18 (by omega); have e4 := e 19 (by omega); have e5 := e 23 (by omega)
  simp only [InvD, nn, e1, e2, e3, e4, e5] at h ⊢
  exact h
theorem invF_of (h : InvF σ) (e : τ 16 = σ 16) : InvF τ := by
  simp only [InvF, e] at h ⊢
  exact h
theorem invW_of (h : InvW σ) (e : ∀ k, k = 20 ∨ k = 23 ∨ k = 30 → τ k = σ k) : InvW τ := by
  have e1 := e 20 (by omega); have e2 := e 23 (by omega); have e3 := e 30 (by omega)
  simp only [InvW, nn, e1, e2, e3] at h ⊢
  exact h
theorem invN_of (hI : InvM σ) (h : InvN σ) (e : ∀ k, k = 2 ∨ (100 ≤ k ∧ k < 200) → τ k = σ k) : InvN τ := by
  have hn := cnt_le (N := 60) hI.1.2.1
  intro i hi
  have e2 : nn τ 2 = nn σ 2 := by unfold nn; rw [e 2 (by omega)]
  rw [e2] at hi
  rw [e (100 + i) (by omega)]
  exact h i hi
theorem invB_of (h : InvB σ) (e : ∀ k, k = 21 ∨ k = 22 ∨ k = 23 → τ k = σ k) : InvB τ := by
  have e1 := e 21 (by omega); have e2 := e 22 (by omega); have e3 := e 23 (by omega)
  simp only [InvB, nn, e1, e2, e3] at h ⊢
  exact h
end INVOF
theorem cnt_one {f : Nat → Bool} : ∀ {n i : Nat}, i < n → f i = false → cntN f n + 1 ≤ n
  | 0, _, h, _ => by omega
  | n + 1, i, h, e => by
    rw [cntN]
    by_cases z : i = n
    · rw [← z, e]
      have := cnt_len f i
      simp only [Bool.false_eq_true, if_false]
      omega
    · have := cnt_one (n := n) (by omega : i < n) e
      split <;> omega
theorem inv_E {σ : St} (hI : InvM σ) (h : InvW σ) : InvE σ := by
  intro n hn h0
  have h1 := okN_lt hn
  have h2 := cnt_le (N := 60) hI.1.2.2.2.2.1
  have h3 := cnt_one (f := fun i => decide (σ 20 i = 1)) h1 (decide_eq_false (by
    have : σ 20 n.toNatClampNeg = 0 := h0
    rw [this]; decide))
  have h4 : cntN (fun i => decide (σ 20 i = 1)) (nn σ 23) = nn σ 30 := h
  have h5 := i_clamp hI.1.2.2.2.2.2.2.2.1.1
  have h6 : nn σ 30 = (σ 30 0).toNatClampNeg := rfl
  omega
