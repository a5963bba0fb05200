/-- a write into one cell of the class: the others stay -/
theorem cd_put {E : EV} {A : Nat → Prop} {σ σ1 : St} {L : Nat → Nat → Nat} {H H1 : Heap} {k0 i0 : Nat} (h : Cd E A σ L H) (hv : cv σ k0 i0) (o : ∀ q : Nat, q ≠ L k0 i0 → H1[q]? = H[q]?) (hn : ∀ g, va_at E.1 vwCl (L k0 i0, ccont E (gh σ1 g) L k0 i0) H1) (he : ∀ g k i, cv σ k i → ¬ (k = k0 ∧ i = i0) → ccont E (gh σ1 g) L k i = ccont E (gh σ g) L k i) (hl : ∀ j, lc σ1 j = lc σ j) (hc : ∀ k, cn σ1 k = cn σ k) : Cd E A σ1 L H1 := by
  obtain ⟨g, h1, h2, h3, h4⟩ := h
  have hcv : ∀ k i, cv (gh σ1 g) k i ↔ cv (gh σ g) k i := fun k i => by
    rw [gh_cv, gh_cv]
    unfold cv
    rw [hc, hl]
  refine ⟨g, fun k i hk => ?_, fun k i k' i' a b => h2 k i k' i' ((hcv k i).mp a) ((hcv k' i').mp b), fun k i a => h3 k i ((hcv k i).mp a), fun j a => ?_⟩
  · have hk2 := (hcv k i).mp hk
    by_cases e : k = k0 ∧ i = i0
    · rw [e.1, e.2]; exact hn g
    · rw [he g k i (gh_cv.mp hk2) e]
      exact (h1 k i hk2).kept (o _ (fun z => e (h2 k i k0 i0 hk2 (gh_cv.mpr hv) z)))
  · have := h4 j ((hcv 10 j).mp a)
    rw [gh_lc] at this ⊢
    rw [hl]
    exact this
/-- the picture stays where its cells do -/
theorem cd_kept {E : EV} {A : Nat → Prop} {σ : St} {L : Nat → Nat → Nat} {H H1 : Heap} (h : Cd E A σ L H) (o : ∀ k i, cv σ k i → H1[L k i]? = H[L k i]?) : Cd E A σ L H1 := by
  obtain ⟨g, h1, h2⟩ := h
  exact ⟨g, fun k i hk => (h1 k i hk).kept (o k i (gh_cv.mp hk)), h2⟩
