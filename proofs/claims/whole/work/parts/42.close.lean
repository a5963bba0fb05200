/-! THE PICTURE BEHIND EACH NEW OBJECT -/
theorem rd_cases {σ : St} {k i u v : Nat} (hv : cv σ k i) (hr : rds k i u v) (h0 : u ≠ 90) (h1 : u ≠ 91) (h2 : u ≠ 92) : (k = 0 ∧ (u = 0 ∨ u = 15 ∨ u = 28) ∧ v = 0) ∨ u = 27 ∨ u = 16 ∨ ((k = 9 ∨ k = 10) ∧ i < 6 + nn σ 11 ∧ cuN i u v) ∨ (k = 10 ∧ 6 ≤ i ∧ i < 6 + nn σ 11 ∧ u = 400 + (i - 6)) ∨ (u = 100 + i ∧ i < nn σ 2) ∨ (4 ≤ u ∧ u ≤ 10 ∧ v < nn σ 11) ∨ (((17 ≤ u ∧ u ≤ 22) ∨ u = 93) ∧ v < nn σ 23) ∨ ((u = 24 ∨ u = 25) ∧ v < nn σ 26) ∨ (u = 200 + i ∧ i < nn σ 30) ∨ (31 ≤ u ∧ u ≤ 34 ∧ v < nn σ 35) ∨ ((u = 13 ∨ u = 14) ∧ v < nn σ 15) := by
  unfold rds at hr
  rcases hr with h | h | h | h | h | ⟨rfl, h | h⟩ | ⟨rfl, h | h⟩ | ⟨rfl, h⟩ | ⟨rfl, h, h'⟩ | ⟨rfl, h, h'⟩ | ⟨rfl, h, h'⟩ | ⟨rfl, h⟩ | ⟨rfl, h, h'⟩ | ⟨rfl, h, h'⟩
  · exact Or.inl h
  · exact Or.inr (Or.inl h.2)
  · exact Or.inr (Or.inr (Or.inl h.2))
  · exact absurd h.2 h0
  · exact absurd h.2 h1
  · exact absurd h.1 h2
  · exact Or.inr (Or.inr (Or.inr (Or.inl ⟨Or.inl rfl, hv.1, h⟩)))
  · exact Or.inr (Or.inr (Or.inr (Or.inl ⟨Or.inr rfl, hv.1, h⟩)))
  · exact Or.inr (Or.inr (Or.inr (Or.inr (Or.inl ⟨rfl, h.1, hv.1, h.2⟩))))
  · exact Or.inr (Or.inr (Or.inr (Or.inr (Or.inr (Or.inl ⟨h, hv.1⟩)))))
  · exact Or.inr (Or.inr (Or.inr (Or.inr (Or.inr (Or.inr (Or.inl ⟨h.1, h.2, by rw [h']; exact hv.1⟩))))))
  · exact Or.inr (Or.inr (Or.inr (Or.inr (Or.inr (Or.inr (Or.inr (Or.inl ⟨h, by rw [h']; exact hv.1⟩)))))))
  · exact Or.inr (Or.inr (Or.inr (Or.inr (Or.inr (Or.inr (Or.inr (Or.inr (Or.inl ⟨h, by rw [h']; exact hv.1⟩))))))))
  · exact Or.inr (Or.inr (Or.inr (Or.inr (Or.inr (Or.inr (Or.inr (Or.inr (Or.inr (Or.inl ⟨h, hv.1⟩)))))))))
  · exact Or.inr (Or.inr (Or.inr (Or.inr (Or.inr (Or.inr (Or.inr (Or.inr (Or.inr (Or.inr (Or.inl ⟨h.1, h.2, by rw [h']; exact hv.1⟩))))))))))
  · exact Or.inr (Or.inr (Or.inr (Or.inr (Or.inr (Or.inr (Or.inr (Or.inr (Or.inr (Or.inr (Or.inr ⟨h, by rw [h']; exact hv.1⟩))))))))))
theorem sA_two {σ : St} {t j u v : Nat} {x : Int32} (h : ¬ (u = t ∧ v = j)) : sA σ t j x u v = σ u v := by
  by_cases e : u = t
  · exact sA_at (fun z => h ⟨e, z⟩) u
  · rw [sA_ne e]
theorem cnt_inc {σ : St} {t : Nat} {N : Int} (h : bnd (σ t 0) N) (hN : N ≤ 1000) : (σ t 0 + 1).toNatClampNeg = nn σ t + 1 := by
  have h1 := h.1
  have h2 := h.2
  have e1 : (1 : Int32).toInt = 1 := rfl
  have e : (σ t 0 + 1).toInt = (σ t 0).toInt + 1 := i_add (by omega) (by omega)
  have h3 := i_clamp h1
  have h4 := i_clamp (x := σ t 0 + 1) (by omega)
  show _ = (σ t 0).toNatClampNeg + 1
  omega
section CLO
variable {E : EV} {A : Nat → Prop} {σ : St} {L : Nat → Nat → Nat} {H H1 : Heap} {a : Nat}
theorem law_at {ld dy wt nt : Int32} {u : Nat} (h1 : u ≠ 100 + nn σ 2) (h2 : u ≠ 2) : m_lawS σ ld dy wt nt u = σ u := by
  unfold m_lawS
  rw [sA_ne h2, sA_ne h1, sA_ne h1, sA_ne h1, sA_ne h1, sA_ne h1, sA_ne h1, sA_ne h1, sA_ne h1]
theorem cl_law {ld dy wt nt : Int32} (h : Cd E A σ L H) (hI : InvM σ) (hK : InvP σ) (hJ : InvJ σ) (hn : nn σ 2 < 60) (hg : grR E A σ L 0 a H H1) (hAa : A a) (hfa : ∀ k i, cv σ k i → L k i ≠ a) (ho : ob E a 5 [.int ld, .int dy, .int (wt / 1000000), .int (rm (wt / 100000) 10), .int (rm (wt / 10000) 10), .int (rm (wt / 1000) 10), .int (rm wt 1000), .int nt] H) : ∃ L1, Cd E A (m_lawS σ ld dy wt nt) L1 H1 ∧ L1 0 0 = L 0 0 := by
  have hc0 : nn (m_lawS σ ld dy wt nt) 2 = nn σ 2 + 1 := by
    unfold nn m_lawS
    rw [sA_me]
    exact cnt_inc hI.1.2.1 (by decide)
  obtain ⟨L1, c1, c2, -⟩ := cd_close (σ1 := m_lawS σ ld dy wt nt) (b := 0) (mdb := 0) (H2 := H1) (kd := 20) (t0 := 2) (Or.inl ⟨rfl, rfl, rfl⟩) h hI hK hJ (by omega) hc0 (fun t ht hne => by unfold nn; rw [law_at (by omega) hne]) hc0
    (fun k i hv n9 n10 n0 u v hr a0 a1 a2 => by
      have hr := rd_cases hv hr a0 a1 a2
      have hw : u ≠ 100 + nn σ 2 ∧ u ≠ 2 := by
        unfold cuN at hr
        rcases hr with h | h | h | ⟨h, h', h3 | h3 | h3 | h3 | h3 | h3 | h3⟩ | h | h | h | h | h | h | h | h <;> omega
      rw [law_at hw.1 hw.2])
    (fun z => absurd z (by decide)) (fun z => absurd z (by decide)) hg hAa hfa (by rw [show kci 20 = 5 from rfl]; exact ho) (fun L1 _ _ g => by
      show (Sum.inr (5, fLaw (gh (m_lawS σ ld dy wt nt) g) (nn σ 2)) : va_E) = Sum.inr (5, _)
      unfold fLaw
      rw [gh_lt (t := 100 + nn σ 2) (by omega)]
      have hne : ¬ (100 + nn σ 2 = 2) := by omega
      simp [m_lawS, sA, upd, hne]) (fun z => absurd z (by decide)) (fun z => absurd z (by decide)) (fun q _ => rfl)
  exact ⟨L1, c1, c2⟩
theorem per_at {wh bo f mo : Int32} {u v : Nat} (h1 : ¬ (4 ≤ u ∧ u ≤ 10 ∧ v = nn σ 11)) (h2 : u ≠ 11) (h3 : ¬ (u = 94 ∧ v = nn σ 11)) : k_perS σ wh bo f mo u v = σ u v := by
  unfold k_perS m_perS
  rw [sA_two h3, sA_two (by omega), sA_two (by omega), sA_two (by omega), sA_two (by omega), sA_two (by omega), sA_two (by omega), sA_two (by omega), sA_two (by omega)]
theorem cl_per {wh bo f mo mdb : Int32} {b : Nat} (h : Cd E A σ L H) (hI : InvM σ) (hK : InvP σ) (hJ : InvJ σ) (hf : okPN σ f) (hm : okPN σ mo) (hg : grR E A σ L 1 a H H1) (hAa : A a) (hfa : ∀ k i, cv σ k i → L k i ≠ a) (ho : ob E a 10 [.int (σ 11 0), .int (wh / 1000000), .int (rm (wh / 10000) 100), .int (rm wh 10000), .int bo, va_rf (rfo L f), va_rf (rfo L mo), .ref b, .null] H) (hb : ob E b 0 [.int mdb, .ref (E.2 11), .int 0] H) (hAb : A b) (hfb : ∀ k i, cv σ k i → L k i ≠ b) (hab : a ≠ b) : ∃ L1, Cd E A (k_perS σ wh bo f mo) L1 H1 ∧ L1 0 0 = L 0 0 := by
  have hc0 : nn (k_perS σ wh bo f mo) 11 = nn σ 11 + 1 := by
    show (m_perS σ wh bo f mo 11 0).toNatClampNeg = _
    unfold m_perS
    rw [sA_me]
    exact cnt_inc hI.1.2.2.1 (by decide)
  obtain ⟨L1, c1, c2, -⟩ := cd_close (σ1 := k_perS σ wh bo f mo) (b := b) (mdb := mdb) (H2 := H1) (kd := 21) (t0 := 11) (Or.inr (Or.inl ⟨rfl, rfl, rfl⟩)) h hI hK hJ (by omega) hc0 (fun t ht hne => by unfold nn; rw [per_at (by omega) hne (by omega)]) hc0
    (fun k i hv n9 n10 n0 u v hr a0 a1 a2 => by
      have hr := rd_cases hv hr a0 a1 a2
      have hw : ¬ (4 ≤ u ∧ u ≤ 10 ∧ v = nn σ 11) ∧ u ≠ 11 ∧ ¬ (u = 94 ∧ v = nn σ 11) := by
        unfold cuN at hr
        rcases hr with h | h | h | ⟨h, h', h3 | h3 | h3 | h3 | h3 | h3 | h3⟩ | h | h | h | h | h | h | h | h <;> omega
      exact per_at hw.1 hw.2.1 hw.2.2)
    (fun _ => by unfold k_perS; rw [sA_me]) (fun z => absurd z (by decide)) hg hAa hfa (by rw [show kci 21 = 10 from rfl]; exact ho) (fun L1 q q2 g => by
      show (Sum.inr (10, fPer (gh (k_perS σ wh bo f mo) g) L1 (nn σ 11)) : va_E) = Sum.inr (10, _)
      have q21 : ∀ m, m < nn σ 11 → L1 21 m = L 21 m := fun m hm => q 21 m (cv_21 hm) (by omega)
      have e : fPer (gh (k_perS σ wh bo f mo) g) L1 (nn σ 11) = [.int (nI (nn σ 11)), .int (wh / 1000000), .int (rm (wh / 10000) 100), .int (rm wh 10000), .int bo, va_rf (rfo L1 f), va_rf (rfo L1 mo), .ref (L1 9 (6 + nn σ 11)), .null] := by
        simp [fPer, gh, k_perS, m_perS, sA, upd]
        unfold rfo
        rw [if_pos rfl]
        rfl
      rw [e, rfo_L hf q21, rfo_L hm q21, q2 rfl, cnt_nI hI.1.2.2.1]) (fun _ => ⟨hb, hAb, hfb, hab⟩) (fun z => absurd z (by decide)) (fun q _ => rfl)
  exact ⟨L1, c1, c2⟩
theorem not_at {x y : Int32} {u v : Nat} (h1 : ¬ (17 ≤ u ∧ u ≤ 22 ∧ u ≠ 20 ∧ v = nn σ 23)) (h2 : u ≠ 23) (h3 : ¬ (u = 93 ∧ v = nn σ 23)) : k_postS σ x y u v = σ u v := by
  unfold k_postS m_postS
  rw [sA_two h3, sA_two (by omega), sA_two (by omega), sA_two (by omega), sA_two (by omega), sA_two (by omega), sA_two (by omega)]
theorem cl_not {x y : Int32} (h : Cd E A σ L H) (hI : InvM σ) (hK : InvP σ) (hJ : InvJ σ) (hZ : InvZ σ) (hx : okP σ x) (hy : okP σ y) (hg : grR E A σ L 2 a H H1) (hAa : A a) (hfa : ∀ k i, cv σ k i → L k i ≠ a) (ho : ob E a 7 [.int (σ 23 0), .ref (L 21 x.toNatClampNeg), .ref (L 21 y.toNatClampNeg), .int (σ 0 0), .int 0, .int 0, .int (-1), .int (-1)] H) : ∃ L1, Cd E A (k_postS σ x y) L1 H1 ∧ L1 0 0 = L 0 0 := by
  have hc0 : nn (k_postS σ x y) 23 = nn σ 23 + 1 := by
    show (m_postS σ x y 23 0).toNatClampNeg = _
    unfold m_postS
    rw [sA_me]
    exact cnt_inc hI.1.2.2.2.2.1 (by decide)
  obtain ⟨L1, c1, c2, -⟩ := cd_close (σ1 := k_postS σ x y) (b := 0) (mdb := 0) (H2 := H1) (kd := 22) (t0 := 23) (Or.inr (Or.inr (Or.inl ⟨rfl, rfl, rfl⟩))) h hI hK hJ (by omega) hc0 (fun t ht hne => by unfold nn; rw [not_at (by omega) hne (by omega)]) hc0
    (fun k i hv n9 n10 n0 u v hr a0 a1 a2 => by
      have hr := rd_cases hv hr a0 a1 a2
      have hw : ¬ (17 ≤ u ∧ u ≤ 22 ∧ u ≠ 20 ∧ v = nn σ 23) ∧ u ≠ 23 ∧ ¬ (u = 93 ∧ v = nn σ 23) := by
        unfold cuN at hr
        rcases hr with h | h | h | ⟨h, h', h3 | h3 | h3 | h3 | h3 | h3 | h3⟩ | h | h | h | h | h | h | h | h <;> omega
      exact not_at hw.1 hw.2.1 hw.2.2)
    (fun z => absurd z (by decide)) (fun z => absurd z (by decide)) hg hAa hfa (by rw [show kci 22 = 7 from rfl]; exact ho) (fun L1 q q2 g => by
      show (Sum.inr (7, fNot (gh (k_postS σ x y) g) L1 (nn σ 23)) : va_E) = Sum.inr (7, _)
      have q21 : ∀ m, m < nn σ 11 → L1 21 m = L 21 m := fun m hm => q 21 m (cv_21 hm) (by omega)
      have e20 : σ 20 (nn σ 23) = 0 := hZ.1 _ (Nat.le_refl _)
      have e : fNot (gh (k_postS σ x y) g) L1 (nn σ 23) = [.int (nI (nn σ 23)), .ref (L1 21 x.toNatClampNeg), .ref (L1 21 y.toNatClampNeg), .int (σ 0 0), .int 0, .int 0, .int (-1), .int (-1)] := by
        simp [fNot, gh, k_postS, m_postS, sA, upd, e20]
      rw [e, q21 _ (okP_lt hx), q21 _ (okP_lt hy), cnt_nI hI.1.2.2.2.2.1]) (fun z => absurd z (by decide)) (fun z => absurd z (by decide)) (fun q _ => rfl)
  exact ⟨L1, c1, c2⟩
theorem obj_at {n : Int32} {u v : Nat} (h1 : ¬ (u = 24 ∧ v = nn σ 26)) (h2 : u ≠ 26) : m_objS σ n u v = σ u v := by
  unfold m_objS
  rw [sA_two (by omega), sA_two (by omega)]
theorem cl_obj {n : Int32} (h : Cd E A σ L H) (hI : InvM σ) (hK : InvP σ) (hJ : InvJ σ) (hZ : InvZ σ) (hx : okN σ n) (hg : grR E A σ L 3 a H H1) (hAa : A a) (hfa : ∀ k i, cv σ k i → L k i ≠ a) (ho : ob E a 8 [.ref (L 22 n.toNatClampNeg), .int 1] H) : ∃ L1, Cd E A (m_objS σ n) L1 H1 ∧ L1 0 0 = L 0 0 ∧ ∀ k i, cv σ k i → ¬ (k = 10 ∧ i = 3) → L1 k i = L k i := by
  have hc0 : nn (m_objS σ n) 26 = nn σ 26 + 1 := by
    unfold nn m_objS
    rw [sA_me]
    exact cnt_inc hI.1.2.2.2.2.2.1 (by decide)
  exact cd_close (σ1 := m_objS σ n) (b := 0) (mdb := 0) (H2 := H1) (kd := 23) (t0 := 26) (Or.inr (Or.inr (Or.inr (Or.inl ⟨rfl, rfl, rfl⟩)))) h hI hK hJ (by omega) hc0 (fun t ht hne => by unfold nn; rw [obj_at (by omega) hne]) hc0
    (fun k i hv n9 n10 n0 u v hr a0 a1 a2 => by
      have hr := rd_cases hv hr a0 a1 a2
      have hw : ¬ (u = 24 ∧ v = nn σ 26) ∧ u ≠ 26 := by
        unfold cuN at hr
        rcases hr with h | h | h | ⟨h, h', h3 | h3 | h3 | h3 | h3 | h3 | h3⟩ | h | h | h | h | h | h | h | h <;> omega
      exact obj_at hw.1 hw.2)
    (fun z => absurd z (by decide)) (fun z => absurd z (by decide)) hg hAa hfa (by rw [show kci 23 = 8 from rfl]; exact ho) (fun L1 q q2 g => by
      show (Sum.inr (8, fObj (gh (m_objS σ n) g) L1 (nn σ 26)) : va_E) = Sum.inr (8, _)
      have e25 : σ 25 (nn σ 26) = 0 := hZ.2 _ (Nat.le_refl _)
      have e : fObj (gh (m_objS σ n) g) L1 (nn σ 26) = [.ref (L1 22 n.toNatClampNeg), .int 1] := by
        simp [fObj, gh, m_objS, sA, upd, e25, bI]
      rw [e, q 22 _ (cv_22 (okN_lt hx)) (by omega)]) (fun z => absurd z (by decide)) (fun z => absurd z (by decide)) (fun q _ => rfl)
theorem cor_at {e f x : Int32} {u v : Nat} (h1 : ¬ (31 ≤ u ∧ u ≤ 34 ∧ v = nn σ 35)) (h2 : u ≠ 35) : m_coS σ e f x u v = σ u v := by
  unfold m_coS
  rw [sA_two (by omega), sA_two (by omega), sA_two (by omega), sA_two (by omega), sA_two (by omega)]
theorem cl_cor {e f x : Int32} (h : Cd E A σ L H) (hI : InvM σ) (hK : InvP σ) (hJ : InvJ σ) (hg : grR E A σ L 5 a H H1) (hAa : A a) (hfa : ∀ k i, cv σ k i → L k i ≠ a) (ho : ob E a 2 [.int e, .int f, .int x, .int (σ 0 0)] H) : ∃ L1, Cd E A (m_coS σ e f x) L1 H1 ∧ L1 0 0 = L 0 0 := by
  have hc0 : nn (m_coS σ e f x) 35 = nn σ 35 + 1 := by
    unfold nn m_coS
    rw [sA_me]
    exact cnt_inc hI.1.2.2.2.2.2.2.2.2 (by decide)
  obtain ⟨L1, c1, c2, -⟩ := cd_close (σ1 := m_coS σ e f x) (b := 0) (mdb := 0) (H2 := H1) (kd := 25) (t0 := 35) (Or.inr (Or.inr (Or.inr (Or.inr (Or.inr (Or.inl ⟨rfl, rfl, rfl⟩)))))) h hI hK hJ (by omega) hc0 (fun t ht hne => by unfold nn; rw [cor_at (by omega) hne]) hc0
    (fun k i hv n9 n10 n0 u v hr a0 a1 a2 => by
      have hr := rd_cases hv hr a0 a1 a2
      have hw : ¬ (31 ≤ u ∧ u ≤ 34 ∧ v = nn σ 35) ∧ u ≠ 35 := by
        unfold cuN at hr
        rcases hr with h | h | h | ⟨h, h', h3 | h3 | h3 | h3 | h3 | h3 | h3⟩ | h | h | h | h | h | h | h | h <;> omega
      exact cor_at hw.1 hw.2)
    (fun z => absurd z (by decide)) (fun z => absurd z (by decide)) hg hAa hfa (by rw [show kci 25 = 2 from rfl]; exact ho) (fun L1 q q2 g => by
      show (Sum.inr (2, fCor (gh (m_coS σ e f x) g) (nn σ 35)) : va_E) = Sum.inr (2, _)
      simp [fCor, gh, m_coS, sA, upd]) (fun z => absurd z (by decide)) (fun z => absurd z (by decide)) (fun q _ => rfl)
  exact ⟨L1, c1, c2⟩
theorem ent_at {n : Int32} {u v : Nat} (h1 : u ≠ 200 + nn σ 30) (h2 : u ≠ 30) : k_enS σ n u v = σ u v := by
  unfold k_enS
  rw [sA_ne h2, sA_ne h1, sA_ne h1, sA_ne h1, sA_ne h1, sA_ne h1, sA_ne h1, sA_ne h1, sA_ne h1]
theorem cl_ent {n : Int32} (h : Cd E A σ L H) (hI : InvM σ) (hK : InvP σ) (hJ : InvJ σ) (hn : nn σ 30 < 60) (hx : okN σ n) (hg : grR E A σ L 4 a H H1) (hAa : A a) (hfa : ∀ k i, cv σ k i → L k i ≠ a) (ho : ob E a 4 [.ref (L 22 n.toNatClampNeg), .int (σ 0 0), .int (gA σ 9 (gA σ 17 n)), .int (gA σ 9 (gA σ 18 n)), .int (rm (gA σ 22 n / 10) 10), .int (rm (gA σ 22 n) 10)] H) : ∃ L1, Cd E A (k_enS σ n) L1 H1 ∧ L1 0 0 = L 0 0 := by
  have hc0 : nn (k_enS σ n) 30 = nn σ 30 + 1 := by
    unfold nn k_enS
    rw [sA_me]
    exact cnt_inc hI.1.2.2.2.2.2.2.2.1 (by decide)
  obtain ⟨L1, c1, c2, -⟩ := cd_close (σ1 := k_enS σ n) (b := 0) (mdb := 0) (H2 := H1) (kd := 24) (t0 := 30) (Or.inr (Or.inr (Or.inr (Or.inr (Or.inl ⟨rfl, rfl, rfl⟩))))) h hI hK hJ (by omega) hc0 (fun t ht hne => by unfold nn; rw [ent_at (by omega) hne]) hc0
    (fun k i hv n9 n10 n0 u v hr a0 a1 a2 => by
      have hr := rd_cases hv hr a0 a1 a2
      have h2 := cnt_le (N := 60) hI.1.2.1
      have h11 := cnt_le (N := 40) hI.1.2.2.1
      have hw : u ≠ 200 + nn σ 30 ∧ u ≠ 30 := by
        unfold cuN at hr
        rcases hr with h | h | h | ⟨h, h', h3 | h3 | h3 | h3 | h3 | h3 | h3⟩ | h | h | h | h | h | h | h | h <;> omega
      exact ent_at hw.1 hw.2)
    (fun z => absurd z (by decide)) (fun z => absurd z (by decide)) hg hAa hfa (by rw [show kci 24 = 4 from rfl]; exact ho) (fun L1 q q2 g => by
      show (Sum.inr (4, fEnt (gh (k_enS σ n) g) L1 (nn σ 30)) : va_E) = Sum.inr (4, _)
      have hne : ¬ (200 + nn σ 30 = 30) := by omega
      have e : fEnt (gh (k_enS σ n) g) L1 (nn σ 30) = [.ref (L1 22 n.toNatClampNeg), .int (σ 0 0), .int (gA σ 9 (gA σ 17 n)), .int (gA σ 9 (gA σ 18 n)), .int (rm (gA σ 22 n / 10) 10), .int (rm (gA σ 22 n) 10)] := by
        unfold fEnt
        rw [gh_lt (t := 200 + nn σ 30) (by omega)]
        simp [k_enS, sA, upd, hne]
      rw [e, q 22 _ (cv_22 (okN_lt hx)) (by omega)]) (fun z => absurd z (by decide)) (fun z => absurd z (by decide)) (fun q _ => rfl)
  exact ⟨L1, c1, c2⟩
theorem pap_at {p kn dy : Int32} {u v : Nat} (h1 : ¬ (12 ≤ u ∧ u ≤ 14 ∧ v = nn σ 15)) (h2 : u ≠ 15) (h3 : ¬ (u = 94 ∧ v = p.toNatClampNeg)) (h4 : ¬ (u = 400 + p.toNatClampNeg ∧ v = (gA σ 94 p).toNatClampNeg)) : k_papS σ p kn dy u v = σ u v := by
  unfold k_papS m_papS
  rw [sA_two h3, sA_two h4, sA_two (by omega), sA_two (by omega), sA_two (by omega), sA_two (by omega)]
theorem cl_pap {p kn dy : Int32} {H2 : Heap} (h : Cd E A σ L H) (hI : InvM σ) (hK : InvP σ) (hJ : InvJ σ) (hp : okP σ p) (hn : nn σ 15 < 200) (hq : (gA σ 94 p).toNatClampNeg < 200) (hg : grR E A σ L (6 + p.toNatClampNeg) a H H1) (hAa : A a) (hfa : ∀ k i, cv σ k i → L k i ≠ a) (ho : ob E a 9 [.int kn, .int dy] H) (hr : ob E (L 0 0) 11 ((fReg σ L).set 1 (.int (σ 15 0 + 1))) H2) (h12 : ∀ q : Nat, q ≠ L 0 0 → H2[q]? = H1[q]?) : ∃ L1, Cd E A (k_papS σ p kn dy) L1 H2 ∧ L1 0 0 = L 0 0 := by
  have hpl := okP_lt hp
  have hc0 : nn (k_papS σ p kn dy) 15 = nn σ 15 + 1 := by
    unfold nn k_papS m_papS
    rw [sA_two (by omega), sA_two (by omega), sA_me]
    exact cnt_inc hI.1.2.2.2.1 (by decide)
  have e94 : k_papS σ p kn dy 94 p.toNatClampNeg = gA σ 94 p + 1 := by unfold k_papS; rw [sA_me]
  have hb := (hK p hp).1
  have hlc : lc (k_papS σ p kn dy) (6 + p.toNatClampNeg) = lc σ (6 + p.toNatClampNeg) + 1 := by
    rw [lc_p, lc_p, e94]
    have h1 := hb.1
    have h2 := hb.2
    have e1 : (1 : Int32).toInt = 1 := rfl
    have e : (gA σ 94 p + 1).toInt = (gA σ 94 p).toInt + 1 := i_add (by omega) (by omega)
    have h3 := i_clamp h1
    have h4 := i_clamp (x := gA σ 94 p + 1) (by omega)
    show _ = (gA σ 94 p).toNatClampNeg + 1
    omega
  have e400 : ∀ v, k_papS σ p kn dy (400 + p.toNatClampNeg) v = if v = (gA σ 94 p).toNatClampNeg then σ 15 0 else σ (400 + p.toNatClampNeg) v := fun v => by
    by_cases e : v = (gA σ 94 p).toNatClampNeg
    · rw [if_pos e, e]
      unfold k_papS
      rw [sA_two (by omega), sA_me]
    · rw [if_neg e, pap_at (by omega) (by omega) (by omega) (fun z => e z.2)]
  obtain ⟨L1, c1, c2, -⟩ := cd_close (σ1 := k_papS σ p kn dy) (b := 0) (mdb := 0) (H2 := H2) (kd := 26) (t0 := 15) (Or.inr (Or.inr (Or.inr (Or.inr (Or.inr (Or.inr ⟨rfl, rfl, by omega⟩)))))) h hI hK hJ (by omega) hc0 (fun t ht hne => by unfold nn; rw [pap_at (by omega) hne (by omega) (by omega)]) hlc
    (fun k i hv n9 n10 n0 u v hr a0 a1 a2 => by
      have hr := rd_cases hv hr a0 a1 a2
      have h2 := cnt_le (N := 60) hI.1.2.1
      have h11 := cnt_le (N := 60) hI.1.2.2.2.2.2.2.2.1
      have hw : ¬ (12 ≤ u ∧ u ≤ 14 ∧ v = nn σ 15) ∧ u ≠ 15 ∧ ¬ (u = 94 ∧ v = p.toNatClampNeg) ∧ u ≠ 400 + p.toNatClampNeg := by
        unfold cuN at hr
        rcases hr with h | h | h | ⟨h, h', h3 | h3 | h3 | h3 | h3 | h3 | h3⟩ | h | h | h | h | h | h | h | h <;> omega
      exact pap_at hw.1 hw.2.1 hw.2.2.1 (fun z => hw.2.2.2 z.1))
    (fun z => absurd z (by decide)) (fun _ => by
      rw [show 400 + (6 + p.toNatClampNeg - 6) = 400 + p.toNatClampNeg by omega, show lc σ (6 + p.toNatClampNeg) = (gA σ 94 p).toNatClampNeg from lc_p]
      exact ⟨fun m hm => by rw [e400, if_neg (Nat.ne_of_lt hm)], by rw [e400, if_pos rfl]; rfl⟩) hg hAa hfa (by rw [show kci 26 = 9 from rfl]; exact ho) (fun L1 q q2 g => by
      show (Sum.inr (9, fPap (gh (k_papS σ p kn dy) g) (nn σ 15)) : va_E) = Sum.inr (9, _)
      have e13 : k_papS σ p kn dy 13 (nn σ 15) = kn := by
        unfold k_papS m_papS
        rw [sA_two (by omega), sA_two (by omega), sA_two (by omega), sA_two (by omega), sA_me]
      have e14 : k_papS σ p kn dy 14 (nn σ 15) = dy := by
        unfold k_papS m_papS
        rw [sA_two (by omega), sA_two (by omega), sA_two (by omega), sA_me]
      unfold fPap
      rw [gh_lt (t := 13) (by omega), gh_lt (t := 14) (by omega), e13, e14]) (fun z => absurd z (by decide)) (fun _ => by
      have e : fReg (k_papS σ p kn dy) L = (fReg σ L).set 1 (.int (σ 15 0 + 1)) := by
        have e0 : k_papS σ p kn dy 0 0 = σ 0 0 := pap_at (by omega) (by omega) (by omega) (by omega)
        have e28 : k_papS σ p kn dy 28 0 = σ 28 0 := pap_at (by omega) (by omega) (by omega) (by omega)
        have e15 : k_papS σ p kn dy 15 0 = σ 15 0 + 1 := by
          unfold k_papS m_papS
          rw [sA_two (by omega), sA_two (by omega), sA_me]
        unfold fReg
        rw [e0, e28, e15]
        rfl
      rw [e]; exact hr) (fun q z => h12 q (z rfl))
  exact ⟨L1, c1, c2⟩
end CLO
/-! what a write keeps -/
theorem invM_tag {σ : St} {t j : Nat} {x : Int32} (h : InvM σ) (ht : t = 16 ∨ t = 20 ∨ t = 21 ∨ t = 22 ∨ t = 25 ∨ t = 27 ∨ t = 93) : InvM (sA σ t j x) := invM_of h (fun k hk => sA_ne (by omega))
theorem invM_10 {σ : St} {i : Nat} {x : Int32} (h : InvM σ) (hx : okPN σ x) : InvM (sA σ 10 i x) := by
  refine ⟨h.1, fun k hk => ?_, h.2.2.1, fun k hk => ?_⟩
  · refine ⟨(h.2.1 k hk).1, (h.2.1 k hk).2.1, ?_⟩
    by_cases e : k = i
    · rw [e, sA_me]; exact hx
    · rw [sA_at e]; exact (h.2.1 k hk).2.2
  · rw [sA_ne (by omega)]
    exact h.2.2.2 k hk
theorem invP_of {σ τ : St} (h : InvP σ) (e : ∀ k, k = 11 ∨ k = 15 ∨ k = 94 ∨ 400 ≤ k → τ k = σ k) : InvP τ := by
  have e11 := e 11 (by omega)
  have e15 := e 15 (by omega)
  have e94 := e 94 (by omega)
  intro x hx
  have hx' : okP σ x := by unfold okP at hx ⊢; rw [e11] at hx; exact hx
  have h1 := h x hx'
  refine ⟨by unfold gA; rw [e94]; exact h1.1, fun q hq => ?_⟩
  have hq' : okQ σ x q := by unfold okQ gA at hq ⊢; rw [e94] at hq; exact hq
  have h2 := h1.2 q hq'
  unfold okK gP at h2 ⊢
  rw [e15, e _ (by omega)]
  exact h2
theorem invJ_of {σ τ : St} (h : InvJ σ) (e : ∀ k, k = 17 ∨ k = 18 ∨ k = 23 ∨ k = 24 ∨ k = 26 ∨ k = 30 ∨ 200 ≤ k → τ k = σ k) : InvJ τ := by
  have e17 := e 17 (by omega); have e18 := e 18 (by omega); have e23 := e 23 (by omega); have e24 := e 24 (by omega); have e26 := e 26 (by omega); have e30 := e 30 (by omega)
  have eE : ∀ i, τ (200 + i) = σ (200 + i) := fun i => e _ (by omega)
  simp only [InvJ, okN, nn, gA, e17, e18, e23, e24, e26, e30, eE] at h ⊢
  exact h
theorem we1_at {σ : St} {n : Int32} {k : Nat} (h : k ≠ 10 ∧ k ≠ 20) : k_we1 σ n k = σ k := by
  unfold k_we1
  rw [sA_ne h.1, sA_ne h.1, sA_ne h.2]
theorem okPN_some {σ : St} {x : Int32} (h : okP σ x) : okPN σ x := Or.inr h
theorem rfo_S {L : Nat → Nat → Nat} {x : Int32} (h : ¬ x = -1) : rfo L x = some (L 21 x.toNatClampNeg) := by unfold rfo; rw [if_neg h]
theorem rfo_N {L : Nat → Nat → Nat} {x : Int32} (h : x = -1) : rfo L x = none := by unfold rfo; rw [if_pos h]
theorem cbp_ok {σ : St} {f mo : Int32} (hI : InvM σ) (h : c_cbp σ f mo = true) : okPN σ f ∧ okPN σ mo := by
  unfold c_cbp at h
  simp only [Bool.and_eq_true, Bool.or_eq_true, decide_eq_true_eq] at h
  refine ⟨?_, ?_⟩
  · rcases h.1 with e | e
    · exact Or.inl e
    · exact Or.inr (isP_ok hI e)
  · rcases h.2.1 with e | e
    · exact Or.inl e
    · exact Or.inr (isP_ok hI e)
theorem isP_n {σ : St} {f : Int32} (hI : InvM σ) (h : okPN σ f) (b : m_isP σ f = false) : f = -1 := by
  rcases h with e | e
  · exact e
  · rw [isP_eq hI] at b
    have h1 := e.1
    have h2 := e.2
    have e0 : (0 : Int32).toInt = 0 := rfl
    rw [decide_eq_false (by rw [i_lt]; omega), decide_eq_true (by rw [i_lt]; omega)] at b
    exact absurd b (by decide)
theorem lt_cnt {σ : St} {t : Nat} {N : Int32} {M : Nat} (hb : bnd (σ t 0) M) (h : σ t 0 < N) {K : Nat} (hN : N.toInt = K) : nn σ t < K := by
  rw [i_lt, hN] at h
  have h2 := i_clamp hb.1
  show (σ t 0).toNatClampNeg < K
  omega
theorem full_lt {σ : St} (h : (!decide (σ 2 0 < 60)) = false) : σ 2 0 < 60 := by
  by_cases e : σ 2 0 < 60
  · exact e
  · rw [decide_eq_false e] at h; exact absurd h (by decide)
def InvQ (σ : St) : Prop := ∀ x, okP σ x → (gA σ 94 x).toInt ≤ (σ 15 0).toInt
def InvE (σ : St) : Prop := ∀ n, okN σ n → gA σ 20 n = 0 → (σ 30 0).toInt < 60
theorem pq_lt {σ : St} {p : Int32} (hK : InvP σ) (hQ : InvQ σ) (hp : okP σ p) (h : σ 15 0 < 200) : (gA σ 94 p).toNatClampNeg < 200 := by
  rw [i_lt, show (200 : Int32).toInt = 200 from rfl] at h
  have h1 := hQ p hp
  have h2 := i_clamp (hK p hp).1.1
  omega
theorem gr_reg {E : EV} {A : Nat → Prop} {σ : St} {L : Nat → Nat → Nat} {H H1 : Heap} {j a : Nat} (h : Cd E A σ L H) (hj : j < 6 + nn σ 11) (hg : grR E A σ L j a H H1) : ob E (L 0 0) 11 (fReg σ L) H1 := by
  obtain ⟨md, ar, cap, b1, b2, b3, b4, b5, b6⟩ := hg
  have hv0 : cv σ 0 0 := cv_f (by omega)
  exact (cd_reg h).kept (b6 _ (cd_lt h hv0) (fun z => absurd (cd_inj h hv0 (cv_9 hj) z).1 (by decide)) (fun w z => absurd (cd_inj h hv0 w z).1 (by decide)))
theorem e60 {σ : St} {n : Int32} (hI : InvM σ) (hE : InvE σ) (hn : okN σ n) (h : gA σ 20 n = 0) : nn σ 30 < 60 := by
  have h1 := hE n hn h
  have h2 := i_clamp hI.1.2.2.2.2.2.2.2.1.1
  show (σ 30 0).toNatClampNeg < 60
  omega
theorem bnd_inc {x N : Int32} {M K : Int} (h : bnd x M) (hl : x < N) (hN : N.toInt ≤ K) (hK : K ≤ 100000) : bnd (x + 1) K := by
  rw [i_lt] at hl
  have h1 := h.1
  have e1 : (1 : Int32).toInt = 1 := rfl
  have e : (x + 1).toInt = x.toInt + 1 := i_add (by omega) (by omega)
  exact ⟨by omega, by omega⟩
theorem invM_obj {σ : St} {n : Int32} (h : InvM σ) (hl : σ 26 0 < 60) : InvM (m_objS σ n) := by
  have h0 := h.1
  refine ⟨⟨h0.1, h0.2.1, h0.2.2.1, h0.2.2.2.1, h0.2.2.2.2.1, ?_, h0.2.2.2.2.2.2.1, h0.2.2.2.2.2.2.2.1, h0.2.2.2.2.2.2.2.2⟩, h.2.1, h.2.2.1, fun k hk => ?_⟩
  · show bnd (m_objS σ n 26 0) 60
    unfold m_objS
    rw [sA_me]
    exact bnd_inc h0.2.2.2.2.2.1 hl (by decide) (by decide)
  · rw [show m_objS σ n (200 + k) = σ (200 + k) by unfold m_objS; rw [sA_ne (by omega), sA_ne (by omega)]]
    exact h.2.2.2 k hk
/-! a feast's bit -/
theorem pk_set {σ : St} {x : Int32} (h : okD x) : vp_updL (pk σ) (nI (x.toNatClampNeg / 64)).toNatClampNeg (pk σ (nI (x.toNatClampNeg / 64)).toNatClampNeg ||| (1 <<< ((x &&& 63).toInt64 &&& 63))) = pk (sA σ 16 x.toNatClampNeg 1) := by
  have h1 := okD_n' h
  generalize hd : x.toNatClampNeg = d at *
  rw [nI_clamp (by omega)]
  funext w
  have hfb : ∀ j, j < 64 → fb (sA σ 16 d 1) w j = (fb σ w j || (decide (w = d / 64) && decide (j = d % 64))) := fun j hj => by
    unfold fb
    by_cases e : 64 * w + j = d
    · rw [e, sA_me]
      have e1 : w = d / 64 := by omega
      have e2 : j = d % 64 := by omega
      rw [decide_eq_true e1, decide_eq_true e2]
      simp
    · rw [sA_two (by omega)]
      have e2 : ¬ (w = d / 64 ∧ j = d % 64) := by omega
      by_cases e3 : w = d / 64
      · rw [decide_eq_false (fun z => e2 ⟨e3, z⟩)]
        simp
      · rw [decide_eq_false e3]
        simp
  have hk : d % 64 < 64 := Nat.mod_lt _ (by decide)
  by_cases e : w = d / 64
  · have e1 : vp_updL (pk σ) (d / 64) (pk σ (d / 64) ||| (1 <<< ((x &&& 63).toInt64 &&& 63))) w = pk σ w ||| lN (2 ^ (d % 64)) := by
      rw [an63 h, hd, show (1 : Int64) = lN 1 from rfl, wb_shl 1 hk, Nat.one_mul, e]
      simp [vp_updL]
    rw [e1]
    apply Int64.toBitVec_inj.mp
    apply BitVec.eq_of_getLsbD_eq
    intro j hj
    rw [pk_bit hj, hfb j hj, Int64.toBitVec_or, BitVec.getLsbD_or, pk_bit hj, wb_tb, BitVec.getLsbD_ofNat, Nat.testBit_two_pow, decide_eq_true hj, decide_eq_true e, Bool.true_and, Bool.true_and]
    congr 1
    exact decide_eq_decide.mpr eq_comm
  · have e1 : vp_updL (pk σ) (d / 64) (pk σ (d / 64) ||| (1 <<< ((x &&& 63).toInt64 &&& 63))) w = pk σ w := by
      simp [vp_updL, e]
    rw [e1]
    unfold pk
    congr 1
    refine bits_congr 64 (fun j hj => ?_)
    rw [hfb j hj, decide_eq_false e]
    simp
