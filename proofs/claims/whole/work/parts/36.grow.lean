/-! A LIST GROWS: one new object (a person: and their own empty list) -/
theorem cv_cases {σ : St} {k i : Nat} (h : cv σ k i) : (k ≤ 8 ∧ i = 0) ∨ (k = 9 ∧ i < 6 + nn σ 11) ∨ (k = 10 ∧ i < 6 + nn σ 11) ∨ (k = 20 ∧ i < nn σ 2) ∨ (k = 21 ∧ i < nn σ 11) ∨ (k = 22 ∧ i < nn σ 23) ∨ (k = 23 ∧ i < nn σ 26) ∨ (k = 24 ∧ i < nn σ 30) ∨ (k = 25 ∧ i < nn σ 35) ∨ (k = 26 ∧ i < nn σ 15) := by
  have h1 := h.1
  have h2 := cv_k h
  have hk : k ≤ 8 ∨ k = 9 ∨ k = 10 ∨ k = 20 ∨ k = 21 ∨ k = 22 ∨ k = 23 ∨ k = 24 ∨ k = 25 ∨ k = 26 := by omega
  rcases hk with e | rfl | rfl | rfl | rfl | rfl | rfl | rfl | rfl | rfl
  · unfold cn at h1
    rw [if_pos e] at h1
    exact Or.inl ⟨e, by omega⟩
  · exact Or.inr (Or.inl ⟨rfl, h1⟩)
  · exact Or.inr (Or.inr (Or.inl ⟨rfl, h1⟩))
  · exact Or.inr (Or.inr (Or.inr (Or.inl ⟨rfl, h1⟩)))
  · exact Or.inr (Or.inr (Or.inr (Or.inr (Or.inl ⟨rfl, h1⟩))))
  · exact Or.inr (Or.inr (Or.inr (Or.inr (Or.inr (Or.inl ⟨rfl, h1⟩)))))
  · exact Or.inr (Or.inr (Or.inr (Or.inr (Or.inr (Or.inr (Or.inl ⟨rfl, h1⟩))))))
  · exact Or.inr (Or.inr (Or.inr (Or.inr (Or.inr (Or.inr (Or.inr (Or.inl ⟨rfl, h1⟩)))))))
  · exact Or.inr (Or.inr (Or.inr (Or.inr (Or.inr (Or.inr (Or.inr (Or.inr (Or.inl ⟨rfl, h1⟩))))))))
  · exact Or.inr (Or.inr (Or.inr (Or.inr (Or.inr (Or.inr (Or.inr (Or.inr (Or.inr ⟨rfl, h1⟩))))))))
theorem cv_f {σ : St} {k : Nat} (h : k ≤ 8) : cv σ k 0 := ⟨by unfold cn; rw [if_pos h]; omega, fun z => by omega⟩
theorem cv_9 {σ : St} {i : Nat} (h : i < 6 + nn σ 11) : cv σ 9 i := ⟨h, fun z => by omega⟩
theorem cv_10 {σ : St} {i : Nat} (h : i < 6 + nn σ 11) (h2 : lc σ i ≠ 0) : cv σ 10 i := ⟨h, fun _ => h2⟩
theorem cv_20 {σ : St} {i : Nat} (h : i < nn σ 2) : cv σ 20 i := ⟨h, fun z => by omega⟩
theorem cv_21 {σ : St} {i : Nat} (h : i < nn σ 11) : cv σ 21 i := ⟨h, fun z => by omega⟩
theorem cv_22 {σ : St} {i : Nat} (h : i < nn σ 23) : cv σ 22 i := ⟨h, fun z => by omega⟩
theorem cv_23 {σ : St} {i : Nat} (h : i < nn σ 26) : cv σ 23 i := ⟨h, fun z => by omega⟩
theorem cv_24 {σ : St} {i : Nat} (h : i < nn σ 30) : cv σ 24 i := ⟨h, fun z => by omega⟩
theorem cv_25 {σ : St} {i : Nat} (h : i < nn σ 35) : cv σ 25 i := ⟨h, fun z => by omega⟩
theorem cv_26 {σ : St} {i : Nat} (h : i < nn σ 15) : cv σ 26 i := ⟨h, fun z => by omega⟩
/-- which number is list i's count -/
def cuN (i u v : Nat) : Prop := (i = 0 ∧ u = 2 ∧ v = 0) ∨ (i = 1 ∧ u = 11 ∧ v = 0) ∨ (i = 2 ∧ u = 23 ∧ v = 0) ∨ (i = 3 ∧ u = 26 ∧ v = 0) ∨ (i = 4 ∧ u = 30 ∧ v = 0) ∨ (i = 5 ∧ u = 35 ∧ v = 0) ∨ (6 ≤ i ∧ u = 94 ∧ v = i - 6)
/-- which numbers a cell shows -/
def rds (k i u v : Nat) : Prop := (k = 0 ∧ (u = 0 ∨ u = 15 ∨ u = 28) ∧ v = 0) ∨ (k = 1 ∧ u = 27) ∨ (k = 3 ∧ u = 16) ∨ (k = 7 ∧ u = 90) ∨ (k = 8 ∧ u = 91) ∨ (k = 9 ∧ ((u = 92 ∧ v = i) ∨ cuN i u v)) ∨ (k = 10 ∧ (cuN i u v ∨ (6 ≤ i ∧ u = 400 + (i - 6)))) ∨ (k = 20 ∧ u = 100 + i) ∨ (k = 21 ∧ (4 ≤ u ∧ u ≤ 10) ∧ v = i) ∨ (k = 22 ∧ ((17 ≤ u ∧ u ≤ 22) ∨ u = 93) ∧ v = i) ∨ (k = 23 ∧ (u = 24 ∨ u = 25) ∧ v = i) ∨ (k = 24 ∧ u = 200 + i) ∨ (k = 25 ∧ (31 ≤ u ∧ u ≤ 34) ∧ v = i) ∨ (k = 26 ∧ (u = 13 ∨ u = 14) ∧ v = i)
section GROW
variable {E : EV} {A : Nat → Prop} {σ σ1 : St} {L L1 : Nat → Nat → Nat} {H H1 : Heap} {k i j : Nat}
theorem lc_rd (q : ∀ u v, cuN i u v → σ1 u v = σ u v) : lc σ1 i = lc σ i := by
  unfold lc nn
  by_cases e0 : i = 0
  · rw [if_pos e0, if_pos e0, q 2 0 (by simp [cuN, e0])]
  rw [if_neg e0, if_neg e0]
  by_cases e1 : i = 1
  · rw [if_pos e1, if_pos e1, q 11 0 (by simp [cuN, e1])]
  rw [if_neg e1, if_neg e1]
  by_cases e2 : i = 2
  · rw [if_pos e2, if_pos e2, q 23 0 (by simp [cuN, e2])]
  rw [if_neg e2, if_neg e2]
  by_cases e3 : i = 3
  · rw [if_pos e3, if_pos e3, q 26 0 (by simp [cuN, e3])]
  rw [if_neg e3, if_neg e3]
  by_cases e4 : i = 4
  · rw [if_pos e4, if_pos e4, q 30 0 (by simp [cuN, e4])]
  rw [if_neg e4, if_neg e4]
  by_cases e5 : i = 5
  · rw [if_pos e5, if_pos e5, q 35 0 (by simp [cuN, e5])]
  rw [if_neg e5, if_neg e5, q 94 (i - 6) (Or.inr (Or.inr (Or.inr (Or.inr (Or.inr (Or.inr ⟨by omega, rfl, rfl⟩))))))]
theorem cc_rd (hk : k ≤ 10 ∨ (20 ≤ k ∧ k ≤ 26)) (q : ∀ u v, rds k i u v → σ1 u v = σ u v) : ccont E σ1 L k i = ccont E σ L k i := by
  have hk : k = 0 ∨ k = 1 ∨ k = 2 ∨ k = 3 ∨ k = 4 ∨ k = 5 ∨ k = 6 ∨ k = 7 ∨ k = 8 ∨ k = 9 ∨ k = 10 ∨ k = 20 ∨ k = 21 ∨ k = 22 ∨ k = 23 ∨ k = 24 ∨ k = 25 ∨ k = 26 := by omega
  rcases hk with rfl | rfl | rfl | rfl | rfl | rfl | rfl | rfl | rfl | rfl | rfl | rfl | rfl | rfl | rfl | rfl | rfl | rfl
  · show (Sum.inr (11, fReg σ1 L) : va_E) = Sum.inr (11, fReg σ L)
    unfold fReg
    rw [q 0 0 (by simp [rds]), q 15 0 (by simp [rds]), q 28 0 (by simp [rds])]
  · have e : σ1 27 = σ 27 := funext fun v => q 27 v (by simp [rds])
    show (Sum.inl (E.2 0, 6, .inl (σ1 27)) : va_E) = Sum.inl (E.2 0, 6, .inl (σ 27))
    rw [e]
  · rfl
  · show (Sum.inl (E.2 1, 313, .inr (.inl (pk σ1))) : va_E) = Sum.inl (E.2 1, 313, .inr (.inl (pk σ)))
    have e1 : pk σ1 = pk σ := by
      funext w
      unfold pk
      have e2 : fb σ1 w = fb σ w := by
        funext b
        unfold fb
        rw [q 16 _ (by simp [rds])]
      rw [e2]
    rw [e1]
  · rfl
  · rfl
  · rfl
  · have e : σ1 90 = σ 90 := funext fun v => q 90 v (by simp [rds])
    show (Sum.inl (E.2 0, 10, .inl (σ1 90)) : va_E) = Sum.inl (E.2 0, 10, .inl (σ 90))
    rw [e]
  · have e : σ1 91 = σ 91 := funext fun v => q 91 v (by simp [rds])
    show (Sum.inl (E.2 0, 60, .inl (σ1 91)) : va_E) = Sum.inl (E.2 0, 60, .inl (σ 91))
    rw [e]
  · show (Sum.inr (0, fLst E σ1 L i) : va_E) = Sum.inr (0, fLst E σ L i)
    unfold fLst
    rw [lc_rd (fun u v h => q u v (by unfold rds; exact Or.inr (Or.inr (Or.inr (Or.inr (Or.inr (Or.inl ⟨rfl, Or.inr h⟩))))))), q 92 i (by simp [rds])]
  · show (Sum.inl (E.2 3, L 11 i, .inr (.inr (.inr (.inr (fl (lc σ1 i) (le_ σ1 L i)))))) : va_E) = Sum.inl (E.2 3, L 11 i, .inr (.inr (.inr (.inr (fl (lc σ i) (le_ σ L i))))))
    have e1 : le_ σ1 L i = le_ σ L i := by
      funext b
      unfold le_
      by_cases e : i < 6
      · rw [if_pos e, if_pos e]
      · rw [if_neg e, if_neg e, q (400 + (i - 6)) b (Or.inr (Or.inr (Or.inr (Or.inr (Or.inr (Or.inr (Or.inl ⟨rfl, Or.inr ⟨by omega, rfl⟩⟩)))))))]
    rw [e1, lc_rd (fun u v h => q u v (by unfold rds; exact Or.inr (Or.inr (Or.inr (Or.inr (Or.inr (Or.inr (Or.inl ⟨rfl, Or.inl h⟩))))))))]
  · have e : σ1 (100 + i) = σ (100 + i) := funext fun v => q (100 + i) v (by simp [rds])
    show (Sum.inr (5, fLaw σ1 i) : va_E) = Sum.inr (5, fLaw σ i)
    unfold fLaw
    rw [e]
  · show (Sum.inr (10, fPer σ1 L i) : va_E) = Sum.inr (10, fPer σ L i)
    unfold fPer
    rw [q 4 i (by simp [rds]), q 5 i (by simp [rds]), q 6 i (by simp [rds]), q 7 i (by simp [rds]), q 8 i (by simp [rds]), q 9 i (by simp [rds]), q 10 i (by simp [rds])]
  · show (Sum.inr (7, fNot σ1 L i) : va_E) = Sum.inr (7, fNot σ L i)
    unfold fNot
    rw [q 17 i (by simp [rds]), q 18 i (by simp [rds]), q 19 i (by simp [rds]), q 20 i (by simp [rds]), q 21 i (by simp [rds]), q 22 i (by simp [rds]), q 93 i (by simp [rds])]
  · show (Sum.inr (8, fObj σ1 L i) : va_E) = Sum.inr (8, fObj σ L i)
    unfold fObj
    rw [q 24 i (by simp [rds]), q 25 i (by simp [rds])]
  · have e : σ1 (200 + i) = σ (200 + i) := funext fun v => q (200 + i) v (by simp [rds])
    show (Sum.inr (4, fEnt σ1 L i) : va_E) = Sum.inr (4, fEnt σ L i)
    unfold fEnt
    rw [e]
  · show (Sum.inr (2, fCor σ1 i) : va_E) = Sum.inr (2, fCor σ i)
    unfold fCor
    rw [q 31 i (by simp [rds]), q 32 i (by simp [rds]), q 33 i (by simp [rds]), q 34 i (by simp [rds])]
  · show (Sum.inr (9, fPap σ1 i) : va_E) = Sum.inr (9, fPap σ i)
    unfold fPap
    rw [q 13 i (by simp [rds]), q 14 i (by simp [rds])]
theorem fl_congr {n : Nat} {el el' : Nat → Nat} (h : ∀ m, m < n → el m = el' m) : fl n el = fl n el' := by
  funext m
  unfold fl
  by_cases e : m < n
  · rw [if_pos e, if_pos e, h m e]
  · rw [if_neg e, if_neg e]
theorem rfo_L {x : Int32} (hx : okPN σ x) (q : ∀ m, m < nn σ 11 → L1 21 m = L 21 m) : rfo L1 x = rfo L x := by
  unfold rfo
  by_cases e : x = -1
  · rw [if_pos e, if_pos e]
  · rw [if_neg e, if_neg e, q _ (okP_lt (okPN_of hx e))]
theorem lc_lt6 (h : i < 6) : (i = 0 ∧ lc σ i = nn σ 2) ∨ (i = 1 ∧ lc σ i = nn σ 11) ∨ (i = 2 ∧ lc σ i = nn σ 23) ∨ (i = 3 ∧ lc σ i = nn σ 26) ∨ (i = 4 ∧ lc σ i = nn σ 30) ∨ (i = 5 ∧ lc σ i = nn σ 35) := by
  have : i = 0 ∨ i = 1 ∨ i = 2 ∨ i = 3 ∨ i = 4 ∨ i = 5 := by omega
  rcases this with rfl | rfl | rfl | rfl | rfl | rfl
  · exact Or.inl ⟨rfl, rfl⟩
  · exact Or.inr (Or.inl ⟨rfl, rfl⟩)
  · exact Or.inr (Or.inr (Or.inl ⟨rfl, rfl⟩))
  · exact Or.inr (Or.inr (Or.inr (Or.inl ⟨rfl, rfl⟩)))
  · exact Or.inr (Or.inr (Or.inr (Or.inr (Or.inl ⟨rfl, rfl⟩))))
  · exact Or.inr (Or.inr (Or.inr (Or.inr (Or.inr ⟨rfl, rfl⟩))))
/-- other addresses, the same cells -/
theorem cc_L (hI : InvM σ) (hK : InvP σ) (hJ : InvJ σ) (hv : cv σ k i) (hn : ¬ ((k = 9 ∨ k = 10) ∧ i = j)) (q : ∀ k i, cv σ k i → ¬ (k = 10 ∧ i = j) → L1 k i = L k i) (q11 : ∀ i, i ≠ j → L1 11 i = L 11 i) : ccont E σ L1 k i = ccont E σ L k i := by
  have qf : ∀ k, k ≤ 8 → L1 k 0 = L k 0 := fun k hk => q k 0 (cv_f hk) (by omega)
  have q9 : ∀ i, i < 6 + nn σ 11 → L1 9 i = L 9 i := fun i hi => q 9 i (cv_9 hi) (by omega)
  have q20 : ∀ i, i < nn σ 2 → L1 20 i = L 20 i := fun i hi => q 20 i (cv_20 hi) (by omega)
  have q21 : ∀ i, i < nn σ 11 → L1 21 i = L 21 i := fun i hi => q 21 i (cv_21 hi) (by omega)
  have q22 : ∀ i, i < nn σ 23 → L1 22 i = L 22 i := fun i hi => q 22 i (cv_22 hi) (by omega)
  have q23 : ∀ i, i < nn σ 26 → L1 23 i = L 23 i := fun i hi => q 23 i (cv_23 hi) (by omega)
  have q24 : ∀ i, i < nn σ 30 → L1 24 i = L 24 i := fun i hi => q 24 i (cv_24 hi) (by omega)
  have q25 : ∀ i, i < nn σ 35 → L1 25 i = L 25 i := fun i hi => q 25 i (cv_25 hi) (by omega)
  have q26 : ∀ i, i < nn σ 15 → L1 26 i = L 26 i := fun i hi => q 26 i (cv_26 hi) (by omega)
  have hc := cv_cases hv
  have hk := cv_k hv
  have hk : k = 0 ∨ k = 1 ∨ k = 2 ∨ k = 3 ∨ k = 4 ∨ k = 5 ∨ k = 6 ∨ k = 7 ∨ k = 8 ∨ k = 9 ∨ k = 10 ∨ k = 20 ∨ k = 21 ∨ k = 22 ∨ k = 23 ∨ k = 24 ∨ k = 25 ∨ k = 26 := by omega
  rcases hk with rfl | rfl | rfl | rfl | rfl | rfl | rfl | rfl | rfl | rfl | rfl | rfl | rfl | rfl | rfl | rfl | rfl | rfl
  · show (Sum.inr (11, fReg σ L1) : va_E) = Sum.inr (11, fReg σ L)
    unfold fReg
    rw [qf 1 (by omega), qf 2 (by omega), qf 4 (by omega), qf 6 (by omega), q9 1 (by omega), q9 2 (by omega), q9 3 (by omega), q9 4 (by omega), q9 5 (by omega)]
  · rfl
  · show (Sum.inr (1, [.ref (L1 3 0)]) : va_E) = Sum.inr (1, [.ref (L 3 0)])
    rw [qf 3 (by omega)]
  · rfl
  · show (Sum.inr (6, [.ref (L1 9 0), .ref (L1 5 0)]) : va_E) = Sum.inr (6, [.ref (L 9 0), .ref (L 5 0)])
    rw [qf 5 (by omega), q9 0 (by omega)]
  · rfl
  · show (Sum.inr (3, [.ref (L1 7 0), .ref (L1 8 0)]) : va_E) = Sum.inr (3, [.ref (L 7 0), .ref (L 8 0)])
    rw [qf 7 (by omega), qf 8 (by omega)]
  · rfl
  · rfl
  · show (Sum.inr (0, fLst E σ L1 i) : va_E) = Sum.inr (0, fLst E σ L i)
    unfold fLst
    by_cases e : lc σ i = 0
    · rw [if_pos e, if_pos e]
    · rw [if_neg e, if_neg e, q 10 i (cv_10 hv.1 e) (by omega)]
  · show (Sum.inl (E.2 3, L1 11 i, .inr (.inr (.inr (.inr (fl (lc σ i) (le_ σ L1 i)))))) : va_E) = Sum.inl (E.2 3, L 11 i, .inr (.inr (.inr (.inr (fl (lc σ i) (le_ σ L i))))))
    have e1 : fl (lc σ i) (le_ σ L1 i) = fl (lc σ i) (le_ σ L i) := fl_congr (fun m hm => by
      unfold le_
      by_cases e : i < 6
      · rw [if_pos e, if_pos e]
        rcases lc_lt6 (σ := σ) e with ⟨rfl, h2⟩ | ⟨rfl, h2⟩ | ⟨rfl, h2⟩ | ⟨rfl, h2⟩ | ⟨rfl, h2⟩ | ⟨rfl, h2⟩ <;> rw [h2] at hm
        · exact q20 m hm
        · exact q21 m hm
        · exact q22 m hm
        · exact q23 m hm
        · exact q24 m hm
        · exact q25 m hm
      · rw [if_neg e, if_neg e]
        have hp : i - 6 < nn σ 11 := by omega
        have h11 := cnt_le (N := 40) hI.1.2.2.1
        have hP : okP σ (nI (i - 6)) := ok_nI hI.1.2.2.1 hp
        have hx := hK _ hP
        have e6 : (nI (i - 6)).toNatClampNeg = i - 6 := nI_clamp (by omega)
        have elc : lc σ i = (gA σ 94 (nI (i - 6))).toNatClampNeg := by
          have := lc_p (σ := σ) (i := i - 6)
          rw [show 6 + (i - 6) = i by omega] at this
          rw [this]
          unfold gA
          rw [e6]
        rw [elc] at hm
        have h3 := hx.2 (nI m) (okQ_nI hx.1 hm)
        have hm2 : m < 2 ^ 31 := by have := bnd_le (N := 200) hx.1; omega
        unfold gP at h3
        rw [e6, nI_clamp hm2] at h3
        exact q26 _ (ok_lt (t := 15) h3))
    rw [e1, q11 i (by omega)]
  · rfl
  · have hi : i < nn σ 11 := by omega
    have hm := hI.2.1 i hi
    show (Sum.inr (10, fPer σ L1 i) : va_E) = Sum.inr (10, fPer σ L i)
    unfold fPer
    rw [rfo_L hm.1 q21, rfo_L hm.2.1 q21, rfo_L hm.2.2 q21, q9 (6 + i) (by omega)]
  · have hi : i < nn σ 23 := by omega
    have hm := hI.2.2.1 i hi
    show (Sum.inr (7, fNot σ L1 i) : va_E) = Sum.inr (7, fNot σ L i)
    unfold fNot
    rw [q21 _ (okP_lt hm.1), q21 _ (okP_lt hm.2.1)]
  · have hi : i < nn σ 26 := by omega
    show (Sum.inr (8, fObj σ L1 i) : va_E) = Sum.inr (8, fObj σ L i)
    unfold fObj
    rw [q22 _ (okN_lt (hJ.2 i hi))]
  · have hi : i < nn σ 30 := by omega
    show (Sum.inr (4, fEnt σ L1 i) : va_E) = Sum.inr (4, fEnt σ L i)
    unfold fEnt
    rw [q22 _ (okN_lt (hJ.1 i hi).1)]
  · rfl
  · rfl
end GROW
theorem rds_92 {k i v : Nat} (h : rds k i 92 v) : k = 9 ∧ v = i := by
  unfold rds cuN at h
  rcases h with h | h | h | h | h | ⟨h1, h2 | h2⟩ | ⟨h1, h2 | h2⟩ | h | h | h | h | h | h | h
  · omega
  · omega
  · omega
  · omega
  · omega
  · exact ⟨h1, h2.2⟩
  · omega
  · omega
  · omega
  · omega
  · omega
  · omega
  · omega
  · omega
  · omega
  · omega
theorem cuN_ne {i u v : Nat} (h : cuN i u v) : u ≠ 90 ∧ u ≠ 91 ∧ u ≠ 92 := by
  unfold cuN at h
  rcases h with h | h | h | h | h | h | h <;> omega
