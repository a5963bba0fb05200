/-! WRITES INTO THE CLASS'S PICTURE -/
/-- which numbers a cell of a kind shows -/
def uses (k t : Nat) : Prop := (k = 0 ∧ (t = 0 ∨ t = 15 ∨ t = 28)) ∨ (k = 1 ∧ t = 27) ∨ (k = 3 ∧ t = 16) ∨ (k = 7 ∧ t = 90) ∨ (k = 8 ∧ t = 91) ∨ ((k = 9 ∨ k = 10) ∧ (t = 92 ∨ t = 2 ∨ t = 11 ∨ t = 23 ∨ t = 26 ∨ t = 30 ∨ t = 35 ∨ t = 94 ∨ 400 ≤ t)) ∨ (k = 20 ∧ 100 ≤ t ∧ t < 200) ∨ (k = 21 ∧ 4 ≤ t ∧ t ≤ 10) ∨ (k = 22 ∧ ((17 ≤ t ∧ t ≤ 22) ∨ t = 93)) ∨ (k = 23 ∧ (t = 24 ∨ t = 25)) ∨ (k = 24 ∧ 200 ≤ t ∧ t < 400) ∨ (k = 25 ∧ 31 ≤ t ∧ t ≤ 34) ∨ (k = 26 ∧ (t = 13 ∨ t = 14))
section CUPD
variable {E : EV} {A : Nat → Prop} {σ σ1 : St} {L : Nat → Nat → Nat} {H H1 : Heap} {t k i : Nat}
theorem lc_tag (e : ∀ u, u ≠ t → σ1 u = σ u) (h : ¬ uses 9 t) : lc σ1 i = lc σ i := by
  unfold lc nn
  rw [e 2 (fun z => h (by unfold uses; omega)), e 11 (fun z => h (by unfold uses; omega)), e 23 (fun z => h (by unfold uses; omega)), e 26 (fun z => h (by unfold uses; omega)), e 30 (fun z => h (by unfold uses; omega)), e 35 (fun z => h (by unfold uses; omega)), e 94 (fun z => h (by unfold uses; omega))]
theorem cc_tag (e : ∀ u, u ≠ t → σ1 u = σ u) (h : ¬ uses k t) (hi : k = 20 ∨ k = 24 → i < 100) (hk : k ≤ 10 ∨ (20 ≤ k ∧ k ≤ 26)) : ccont E σ1 L k i = ccont E σ L k i := by
  have q : ∀ u, uses k u → σ1 u = σ u := fun u hu => e u (fun z => h (z ▸ hu))
  clear e h
  have hk : k = 0 ∨ k = 1 ∨ k = 2 ∨ k = 3 ∨ k = 4 ∨ k = 5 ∨ k = 6 ∨ k = 7 ∨ k = 8 ∨ k = 9 ∨ k = 10 ∨ k = 20 ∨ k = 21 ∨ k = 22 ∨ k = 23 ∨ k = 24 ∨ k = 25 ∨ k = 26 := by omega
  rcases hk with rfl | rfl | rfl | rfl | rfl | rfl | rfl | rfl | rfl | rfl | rfl | rfl | rfl | rfl | rfl | rfl | rfl | rfl
  · show (Sum.inr (11, fReg σ1 L) : va_E) = Sum.inr (11, fReg σ L)
    unfold fReg
    rw [q 0 (by unfold uses; omega), q 15 (by unfold uses; omega), q 28 (by unfold uses; omega)]
  · show (Sum.inl (E.2 0, 6, .inl (σ1 27)) : va_E) = Sum.inl (E.2 0, 6, .inl (σ 27))
    rw [q 27 (by unfold uses; omega)]
  · rfl
  · show (Sum.inl (E.2 1, 313, .inr (.inl (pk σ1))) : va_E) = Sum.inl (E.2 1, 313, .inr (.inl (pk σ)))
    have e1 : pk σ1 = pk σ := by
      funext w
      unfold pk
      have e2 : fb σ1 w = fb σ w := by
        funext b
        unfold fb
        rw [q 16 (by unfold uses; omega)]
      rw [e2]
    rw [e1]
  · rfl
  · rfl
  · rfl
  · show (Sum.inl (E.2 0, 10, .inl (σ1 90)) : va_E) = Sum.inl (E.2 0, 10, .inl (σ 90))
    rw [q 90 (by unfold uses; omega)]
  · show (Sum.inl (E.2 0, 60, .inl (σ1 91)) : va_E) = Sum.inl (E.2 0, 60, .inl (σ 91))
    rw [q 91 (by unfold uses; omega)]
  · show (Sum.inr (0, fLst E σ1 L i) : va_E) = Sum.inr (0, fLst E σ L i)
    unfold fLst lc nn
    rw [q 92 (by unfold uses; omega), q 2 (by unfold uses; omega), q 11 (by unfold uses; omega), q 23 (by unfold uses; omega), q 26 (by unfold uses; omega), q 30 (by unfold uses; omega), q 35 (by unfold uses; omega), q 94 (by unfold uses; omega)]
  · show (Sum.inl (E.2 3, L 11 i, .inr (.inr (.inr (.inr (fl (lc σ1 i) (le_ σ1 L i)))))) : va_E) = Sum.inl (E.2 3, L 11 i, .inr (.inr (.inr (.inr (fl (lc σ i) (le_ σ L i))))))
    have e1 : le_ σ1 L i = le_ σ L i := by
      funext b
      unfold le_
      rw [q (400 + (i - 6)) (by unfold uses; omega)]
    have e2 : lc σ1 i = lc σ i := by
      unfold lc nn
      rw [q 2 (by unfold uses; omega), q 11 (by unfold uses; omega), q 23 (by unfold uses; omega), q 26 (by unfold uses; omega), q 30 (by unfold uses; omega), q 35 (by unfold uses; omega), q 94 (by unfold uses; omega)]
    rw [e1, e2]
  · show (Sum.inr (5, fLaw σ1 i) : va_E) = Sum.inr (5, fLaw σ i)
    unfold fLaw
    rw [q (100 + i) (by unfold uses; omega)]
  · show (Sum.inr (10, fPer σ1 L i) : va_E) = Sum.inr (10, fPer σ L i)
    unfold fPer
    rw [q 4 (by unfold uses; omega), q 5 (by unfold uses; omega), q 6 (by unfold uses; omega), q 7 (by unfold uses; omega), q 8 (by unfold uses; omega), q 9 (by unfold uses; omega), q 10 (by unfold uses; omega)]
  · show (Sum.inr (7, fNot σ1 L i) : va_E) = Sum.inr (7, fNot σ L i)
    unfold fNot
    rw [q 17 (by unfold uses; omega), q 18 (by unfold uses; omega), q 19 (by unfold uses; omega), q 20 (by unfold uses; omega), q 21 (by unfold uses; omega), q 22 (by unfold uses; omega), q 93 (by unfold uses; omega)]
  · show (Sum.inr (8, fObj σ1 L i) : va_E) = Sum.inr (8, fObj σ L i)
    unfold fObj
    rw [q 24 (by unfold uses; omega), q 25 (by unfold uses; omega)]
  · show (Sum.inr (4, fEnt σ1 L i) : va_E) = Sum.inr (4, fEnt σ L i)
    unfold fEnt
    rw [q (200 + i) (by unfold uses; omega)]
  · show (Sum.inr (2, fCor σ1 i) : va_E) = Sum.inr (2, fCor σ i)
    unfold fCor
    rw [q 31 (by unfold uses; omega), q 32 (by unfold uses; omega), q 33 (by unfold uses; omega), q 34 (by unfold uses; omega)]
  · show (Sum.inr (9, fPap σ1 i) : va_E) = Sum.inr (9, fPap σ i)
    unfold fPap
    rw [q 13 (by unfold uses; omega), q 14 (by unfold uses; omega)]
end CUPD
