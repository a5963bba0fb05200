/-! the addresses behind a growing -/
def gL (L : Nat → Nat → Nat) (kd i0 a j ar cap p b : Nat) : Nat → Nat → Nat := fun k i => if k = kd ∧ i = i0 then a else if k = 10 ∧ i = j then ar else if k = 11 ∧ i = j then cap else if kd = 21 ∧ k = 9 ∧ i = p then b else L k i
def gKd (kd t0 j : Nat) : Prop := (kd = 20 ∧ t0 = 2 ∧ j = 0) ∨ (kd = 21 ∧ t0 = 11 ∧ j = 1) ∨ (kd = 22 ∧ t0 = 23 ∧ j = 2) ∨ (kd = 23 ∧ t0 = 26 ∧ j = 3) ∨ (kd = 24 ∧ t0 = 30 ∧ j = 4) ∨ (kd = 25 ∧ t0 = 35 ∧ j = 5) ∨ (kd = 26 ∧ t0 = 15 ∧ 6 ≤ j)
theorem invM_gh {σ : St} {g : Nat → Nat → Int32} (h : InvM σ) : InvM (gh σ g) := invM_of h (fun k hk => gh_lt (by omega))
theorem invP_gh {σ : St} {g : Nat → Nat → Int32} (h : InvP σ) : InvP (gh σ g) := by
  have e : ∀ x q, gP (gh σ g) x q = gP σ x q := fun x q => by unfold gP; rw [gh_lt (t := 400 + x.toNatClampNeg) (by omega)]
  intro x hx
  have := h x hx
  refine ⟨this.1, fun q hq => ?_⟩
  rw [e]
  exact this.2 q hq
theorem invJ_gh {σ : St} {g : Nat → Nat → Int32} (h : InvJ σ) : InvJ (gh σ g) := by
  have e : ∀ i, gh σ g (200 + i) = σ (200 + i) := fun i => gh_lt (by omega)
  refine ⟨fun i hi => ?_, fun i hi => h.2 i hi⟩
  rw [e]
  exact h.1 i hi
theorem gkd_of {kd t0 j : Nat} (h : gKd kd t0 j) : (t0 = 2 → kd = 20) ∧ (t0 = 11 → kd = 21 ∧ j = 1) ∧ (t0 = 23 → kd = 22) ∧ (t0 = 26 → kd = 23) ∧ (t0 = 30 → kd = 24) ∧ (t0 = 35 → kd = 25) ∧ (t0 = 15 → kd = 26) ∧ (6 ≤ j → kd = 26 ∧ t0 = 15) ∧ (20 ≤ kd ∧ kd ≤ 26) ∧ (kd = 21 → j = 1) := by
  rcases h with ⟨rfl, rfl, rfl⟩ | ⟨rfl, rfl, rfl⟩ | ⟨rfl, rfl, rfl⟩ | ⟨rfl, rfl, rfl⟩ | ⟨rfl, rfl, rfl⟩ | ⟨rfl, rfl, rfl⟩ | ⟨rfl, rfl, h⟩ <;> simp
section GROW2
variable {E : EV} {A : Nat → Prop} {σ σ1 : St} {L : Nat → Nat → Nat} {H H1 : Heap} {j kd t0 a ar cap b : Nat} {md mdb : Int32}
theorem cd_grow (hkd : gKd kd t0 j) (h : Cd E A σ L H) (hI : InvM σ) (hK : InvP σ) (hJ : InvJ σ) (hj : j < 6 + nn σ 11)
    (hc0 : nn σ1 t0 = nn σ t0 + 1) (hc : ∀ t, (t = 2 ∨ t = 11 ∨ t = 15 ∨ t = 23 ∨ t = 26 ∨ t = 30 ∨ t = 35) → t ≠ t0 → nn σ1 t = nn σ t) (hlc : lc σ1 j = lc σ j + 1)
    (hs : ∀ k i, cv σ k i → ¬ (k = 9 ∧ i = j) → ¬ (k = 10 ∧ i = j) → ¬ (k = 0 ∧ kd = 26) → ∀ u v, rds k i u v → u ≠ 90 → u ≠ 91 → u ≠ 92 → σ1 u v = σ u v)
    (hp : kd = 21 → σ1 94 (nn σ 11) = 0)
    (hpp : 6 ≤ j → (∀ m, m < lc σ j → σ1 (400 + (j - 6)) m = σ (400 + (j - 6)) m) ∧ (∀ m, m < lc σ j → (σ (400 + (j - 6)) m).toNatClampNeg < nn σ 15) ∧ (σ1 (400 + (j - 6)) (lc σ j)).toNatClampNeg = nn σ t0)
    (hlst : ob E (L 9 j) 0 [.int md, .ref ar, .int (nI (lc σ j + 1))] H1) (hq : qa E ar cap (fl (lc σ j + 1) (va_up (le_ σ L j) (lc σ j) a)) H1) (hA : A ar) (hcap : lc σ j + 1 ≤ cap ∧ capOK cap)
    (har : ∀ k i, cv σ k i → ¬ (k = 10 ∧ i = j) → L k i ≠ ar) (haa : a ≠ ar)
    (ha : ∀ g, va_at E.1 vwCl (a, ccont E (gh σ1 g) (gL L kd (nn σ t0) a j ar cap (6 + nn σ 11) b) kd (nn σ t0)) H1) (hAa : A a) (hfa : ∀ k i, cv σ k i → L k i ≠ a)
    (hb : kd = 21 → ob E b 0 [.int mdb, .ref (E.2 11), .int 0] H1 ∧ A b ∧ (∀ k i, cv σ k i → L k i ≠ b) ∧ a ≠ b ∧ ar ≠ b)
    (hreg : kd = 26 → ob E (L 0 0) 11 (fReg σ1 L) H1)
    (hkp : ∀ k i, cv σ k i → ¬ (k = 9 ∧ i = j) → ¬ (k = 10 ∧ i = j) → ¬ (k = 0 ∧ kd = 26) → H1[L k i]? = H[L k i]?) :
    Cd E A σ1 (gL L kd (nn σ t0) a j ar cap (6 + nn σ 11) b) H1 := by
  obtain ⟨g, h1, h2, h3, h4⟩ := h
  generalize hL1 : gL L kd (nn σ t0) a j ar cap (6 + nn σ 11) b = L1 at ha ⊢
  obtain ⟨g2, g11, g23, g26, g30, g35, g15, g6, hkr, g21⟩ := gkd_of hkd
  have e_new : L1 kd (nn σ t0) = a := by rw [← hL1]; exact if_pos ⟨rfl, rfl⟩
  have e_10 : L1 10 j = ar := by rw [← hL1]; unfold gL; rw [if_neg (by omega), if_pos ⟨rfl, rfl⟩]
  have e_11 : L1 11 j = cap := by rw [← hL1]; unfold gL; rw [if_neg (by omega), if_neg (by omega), if_pos ⟨rfl, rfl⟩]
  have e_b : kd = 21 → L1 9 (6 + nn σ 11) = b := fun z => by rw [← hL1]; unfold gL; rw [if_neg (by omega), if_neg (by omega), if_neg (by omega), if_pos ⟨z, rfl, rfl⟩]
  have e_11' : ∀ i, i ≠ j → L1 11 i = L 11 i := fun i hi => by rw [← hL1]; unfold gL; rw [if_neg (by omega), if_neg (by omega), if_neg (by omega), if_neg (by omega)]
  have e_old : ∀ k i, cv σ k i → ¬ (k = 10 ∧ i = j) → L1 k i = L k i := fun k i hv hn => by
    have c := cv_cases hv
    rw [← hL1]
    unfold gL
    rw [if_neg, if_neg hn, if_neg (by omega), if_neg (by omega)]
    rintro ⟨rfl, rfl⟩
    rcases hkd with ⟨rfl, rfl, rfl⟩ | ⟨rfl, rfl, rfl⟩ | ⟨rfl, rfl, rfl⟩ | ⟨rfl, rfl, rfl⟩ | ⟨rfl, rfl, rfl⟩ | ⟨rfl, rfl, rfl⟩ | ⟨rfl, rfl, hk⟩ <;> omega
  have hnn : ∀ t, (t = 2 ∨ t = 11 ∨ t = 15 ∨ t = 23 ∨ t = 26 ∨ t = 30 ∨ t = 35) → (t0 = t ∧ nn σ1 t = nn σ t + 1) ∨ (t0 ≠ t ∧ nn σ1 t = nn σ t) := fun t ht => by
    by_cases e : t = t0
    · exact Or.inl ⟨e.symm, by rw [e]; exact hc0⟩
    · exact Or.inr ⟨fun z => e z.symm, hc t ht e⟩
  have n2 := hnn 2 (by omega)
  have n11 := hnn 11 (by omega)
  have n15 := hnn 15 (by omega)
  have n23 := hnn 23 (by omega)
  have n26 := hnn 26 (by omega)
  have n30 := hnn 30 (by omega)
  have n35 := hnn 35 (by omega)
  have hlcE : ∀ i, i < 6 + nn σ 11 → i ≠ j → lc σ1 i = lc σ i := fun i hi hne => lc_rd (fun u v hr => hs 9 i (cv_9 hi) (by omega) (by omega) (by omega) u v (by unfold rds; exact Or.inr (Or.inr (Or.inr (Or.inr (Or.inr (Or.inl ⟨rfl, Or.inr hr⟩)))))) (cuN_ne hr).1 (cuN_ne hr).2.1 (cuN_ne hr).2.2)
  have hcl : ∀ k i, cv σ1 k i → (cv σ k i ∧ ¬ (k = 10 ∧ i = j) ∧ L1 k i = L k i) ∨ (k = kd ∧ i = nn σ t0 ∧ L1 k i = a) ∨ (k = 10 ∧ i = j ∧ L1 k i = ar) ∨ (kd = 21 ∧ k = 9 ∧ i = 6 + nn σ 11 ∧ L1 k i = b) := by
    intro k i hv
    have old : cv σ k i → ¬ (k = 10 ∧ i = j) → (cv σ k i ∧ ¬ (k = 10 ∧ i = j) ∧ L1 k i = L k i) ∨ (k = kd ∧ i = nn σ t0 ∧ L1 k i = a) ∨ (k = 10 ∧ i = j ∧ L1 k i = ar) ∨ (kd = 21 ∧ k = 9 ∧ i = 6 + nn σ 11 ∧ L1 k i = b) := fun z1 z2 => Or.inl ⟨z1, z2, e_old k i z1 z2⟩
    have new : k = kd → i = nn σ t0 → (cv σ k i ∧ ¬ (k = 10 ∧ i = j) ∧ L1 k i = L k i) ∨ (k = kd ∧ i = nn σ t0 ∧ L1 k i = a) ∨ (k = 10 ∧ i = j ∧ L1 k i = ar) ∨ (kd = 21 ∧ k = 9 ∧ i = 6 + nn σ 11 ∧ L1 k i = b) := fun z1 z2 => Or.inr (Or.inl ⟨z1, z2, by rw [z1, z2]; exact e_new⟩)
    rcases cv_cases hv with ⟨e, rfl⟩ | ⟨rfl, e⟩ | ⟨rfl, e⟩ | ⟨rfl, e⟩ | ⟨rfl, e⟩ | ⟨rfl, e⟩ | ⟨rfl, e⟩ | ⟨rfl, e⟩ | ⟨rfl, e⟩ | ⟨rfl, e⟩
    · exact old (cv_f e) (by omega)
    · by_cases hi : i < 6 + nn σ 11
      · exact old (cv_9 hi) (by omega)
      · rcases n11 with ⟨z1, z2⟩ | ⟨z1, z2⟩
        · have hk : kd = 21 := (g11 z1).1
          have hi : i = 6 + nn σ 11 := by omega
          exact Or.inr (Or.inr (Or.inr ⟨hk, rfl, hi, by rw [hi]; exact e_b hk⟩))
        · omega
    · by_cases ej : i = j
      · exact Or.inr (Or.inr (Or.inl ⟨rfl, ej, by rw [ej]; exact e_10⟩))
      · by_cases hi : i < 6 + nn σ 11
        · exact old (cv_10 hi (by rw [← hlcE i hi ej]; exact hv.2 rfl)) (by omega)
        · exfalso
          rcases n11 with ⟨z1, z2⟩ | ⟨z1, z2⟩
          · have hi : i = 6 + nn σ 11 := by omega
            apply hv.2 rfl
            rw [hi, lc_p, hp (g11 z1).1]
            rfl
          · omega
    · by_cases hi : i < nn σ 2
      · exact old (cv_20 hi) (by omega)
      · rcases n2 with ⟨z1, z2⟩ | ⟨z1, z2⟩
        · exact new (g2 z1).symm (by rw [z1]; omega)
        · omega
    · by_cases hi : i < nn σ 11
      · exact old (cv_21 hi) (by omega)
      · rcases n11 with ⟨z1, z2⟩ | ⟨z1, z2⟩
        · exact new ((g11 z1).1).symm (by rw [z1]; omega)
        · omega
    · by_cases hi : i < nn σ 23
      · exact old (cv_22 hi) (by omega)
      · rcases n23 with ⟨z1, z2⟩ | ⟨z1, z2⟩
        · exact new (g23 z1).symm (by rw [z1]; omega)
        · omega
    · by_cases hi : i < nn σ 26
      · exact old (cv_23 hi) (by omega)
      · rcases n26 with ⟨z1, z2⟩ | ⟨z1, z2⟩
        · exact new (g26 z1).symm (by rw [z1]; omega)
        · omega
    · by_cases hi : i < nn σ 30
      · exact old (cv_24 hi) (by omega)
      · rcases n30 with ⟨z1, z2⟩ | ⟨z1, z2⟩
        · exact new (g30 z1).symm (by rw [z1]; omega)
        · omega
    · by_cases hi : i < nn σ 35
      · exact old (cv_25 hi) (by omega)
      · rcases n35 with ⟨z1, z2⟩ | ⟨z1, z2⟩
        · exact new (g35 z1).symm (by rw [z1]; omega)
        · omega
    · by_cases hi : i < nn σ 15
      · exact old (cv_26 hi) (by omega)
      · rcases n15 with ⟨z1, z2⟩ | ⟨z1, z2⟩
        · exact new (g15 z1).symm (by rw [z1]; omega)
        · omega
  have hle : ∀ m, m < lc σ j + 1 → va_up (le_ σ L j) (lc σ j) a m = le_ σ1 L1 j m := by
    intro m hm
    by_cases hj6 : j < 6
    · have hk : kd = 20 + j ∧ lc σ j = nn σ t0 := by
        rcases hkd with ⟨rfl, rfl, rfl⟩ | ⟨rfl, rfl, rfl⟩ | ⟨rfl, rfl, rfl⟩ | ⟨rfl, rfl, rfl⟩ | ⟨rfl, rfl, rfl⟩ | ⟨rfl, rfl, rfl⟩ | ⟨rfl, rfl, hk⟩
        · exact ⟨rfl, rfl⟩
        · exact ⟨rfl, rfl⟩
        · exact ⟨rfl, rfl⟩
        · exact ⟨rfl, rfl⟩
        · exact ⟨rfl, rfl⟩
        · exact ⟨rfl, rfl⟩
        · omega
      unfold le_
      rw [if_pos hj6]
      by_cases e : m = lc σ j
      · rw [e, hk.2, ← hk.1, e_new]
        simp [va_up]
      · have hm2 : m < lc σ j := by omega
        rw [e_old (20 + j) m (by
          rcases lc_lt6 (σ := σ) hj6 with ⟨rfl, z⟩ | ⟨rfl, z⟩ | ⟨rfl, z⟩ | ⟨rfl, z⟩ | ⟨rfl, z⟩ | ⟨rfl, z⟩ <;> rw [z] at hm2
          · exact cv_20 hm2
          · exact cv_21 hm2
          · exact cv_22 hm2
          · exact cv_23 hm2
          · exact cv_24 hm2
          · exact cv_25 hm2) (by omega)]
        simp [va_up, e, hj6]
    · obtain ⟨p1, p2, p3⟩ := hpp (by omega)
      have hk : kd = 26 ∧ t0 = 15 := g6 (by omega)
      unfold le_
      rw [if_neg hj6]
      by_cases e : m = lc σ j
      · rw [e, p3, ← hk.1, e_new]
        simp [va_up]
      · have hm2 : m < lc σ j := by omega
        rw [p1 m hm2, e_old 26 _ (cv_26 (p2 m hm2)) (by omega)]
        simp [va_up, e, hj6]
  obtain ⟨g1, hg1⟩ : ∃ g1 : Nat → Nat → Int32, g1 = fun t => if t = 92 then (fun i => if i = j then md else if kd = 21 ∧ i = 6 + nn σ 11 then mdb else g 92 i) else g t := ⟨_, rfl⟩
  refine ⟨g1, fun k i hk => ?_, fun k i k' i' hk hk' e => ?_, fun k i hk => ?_, fun jj hk => ?_⟩
  · have hv := gh_cv.mp hk
    by_cases e1 : k = kd ∧ i = nn σ t0
    · rw [e1.1, e1.2, e_new]; exact ha g1
    by_cases e2 : k = 10 ∧ i = j
    · rw [e2.1, e2.2]
      show qa E (L1 10 j) (L1 11 j) (fl (lc (gh σ1 g1) j) (le_ (gh σ1 g1) L1 j)) H1
      rw [gh_lc, gh_le, e_10, e_11, hlc, ← fl_congr hle]
      exact hq
    by_cases e3 : k = 9 ∧ i = j
    · rw [e3.1, e3.2]
      show ob E (L1 9 j) 0 (fLst E (gh σ1 g1) L1 j) H1
      have em : gh σ1 g1 92 j = md := by
        show g1 92 j = md
        rw [hg1]
        simp
      unfold fLst
      rw [gh_lc, hlc, if_neg (by omega), e_10, em, e_old 9 j (cv_9 hj) (by omega)]
      exact hlst
    by_cases e4 : kd = 21 ∧ k = 9 ∧ i = 6 + nn σ 11
    · obtain ⟨z1, z2, z3⟩ := e4
      rw [z2, z3]
      show ob E (L1 9 (6 + nn σ 11)) 0 (fLst E (gh σ1 g1) L1 (6 + nn σ 11)) H1
      have em : gh σ1 g1 92 (6 + nn σ 11) = mdb := by
        show g1 92 (6 + nn σ 11) = mdb
        rw [hg1]
        have : ¬ 6 + nn σ 11 = j := by have := g21 z1; omega
        simp [this, z1]
      have el : lc σ1 (6 + nn σ 11) = 0 := by rw [lc_p, hp z1]; rfl
      unfold fLst
      rw [gh_lc, el, if_pos rfl, em, e_b z1]
      exact (hb z1).1
    by_cases e5 : k = 0 ∧ kd = 26
    · have hi : i = 0 := by have := cv_cases hv; omega
      rw [e5.1, hi]
      have q0 : ∀ k, k ≤ 8 → L1 k 0 = L k 0 := fun k hk => e_old k 0 (cv_f hk) (by omega)
      have q9 : ∀ i, i < 6 → L1 9 i = L 9 i := fun i hi => e_old 9 i (cv_9 (by omega)) (by omega)
      have ef : fReg (gh σ1 g1) L1 = fReg σ1 L := by
        unfold fReg
        rw [q0 1 (by omega), q0 2 (by omega), q0 4 (by omega), q0 6 (by omega), q9 1 (by omega), q9 2 (by omega), q9 3 (by omega), q9 4 (by omega), q9 5 (by omega)]
        rfl
      show ob E (L1 0 0) 11 (fReg (gh σ1 g1) L1) H1
      rw [ef, q0 0 (by omega)]
      exact hreg e5.2
    rcases hcl k i hv with ⟨z1, z2, z3⟩ | ⟨z1, z2, -⟩ | ⟨z1, z2, -⟩ | ⟨z0, z1, z2, -⟩
    · have eq1 : ccont E (gh σ1 g1) L1 k i = ccont E (gh σ g) L1 k i := cc_rd (cv_k z1) (fun u v hr => by
        by_cases eu : u = 90 ∨ u = 91 ∨ u = 92
        · have e1 : gh σ1 g1 u = g1 u := if_pos eu
          have e2 : gh σ g u = g u := if_pos eu
          rw [e1, e2, hg1]
          by_cases e92 : u = 92
          · subst e92
            have c := cv_cases z1
            have hv9 : k = 9 ∧ v = i := rds_92 hr
            simp only [if_pos]
            rw [if_neg (by omega), if_neg (by omega)]
          · simp [e92]
        · rw [gh_lt (by omega), gh_lt (by omega)]
          exact hs k i z1 e3 e2 e5 u v hr (by omega) (by omega) (by omega))
      have eq2 : ccont E (gh σ g) L1 k i = ccont E (gh σ g) L k i := cc_L (j := j) (invM_gh hI) (invP_gh hK) (invJ_gh hJ) (gh_cv.mpr z1) (by omega) (fun k i hv hn => e_old k i (gh_cv.mp hv) hn) e_11'
      rw [eq1, eq2, z3]
      exact (h1 k i (gh_cv.mpr z1)).kept (hkp k i z1 e3 e2 e5)
    · exact absurd ⟨z1, z2⟩ e1
    · exact absurd ⟨z1, z2⟩ e2
    · exact absurd ⟨z0, z1, z2⟩ e4
  · rcases hcl k i (gh_cv.mp hk) with ⟨z1, z2, z3⟩ | ⟨z1, z2, z3⟩ | ⟨z1, z2, z3⟩ | ⟨z0, z1, z2, z3⟩ <;> rcases hcl k' i' (gh_cv.mp hk') with ⟨w1, w2, w3⟩ | ⟨w1, w2, w3⟩ | ⟨w1, w2, w3⟩ | ⟨w0, w1, w2, w3⟩ <;> rw [z3, w3] at e
    · exact h2 k i k' i' (gh_cv.mpr z1) (gh_cv.mpr w1) e
    · exact absurd e (hfa k i z1)
    · exact absurd e (har k i z1 z2)
    · exact absurd e ((hb w0).2.2.1 k i z1)
    · exact absurd e.symm (hfa k' i' w1)
    · exact ⟨z1.trans w1.symm, z2.trans w2.symm⟩
    · exact absurd e haa
    · exact absurd e (hb w0).2.2.2.1
    · exact absurd e.symm (har k' i' w1 w2)
    · exact absurd e.symm haa
    · exact ⟨z1.trans w1.symm, z2.trans w2.symm⟩
    · exact absurd e (hb w0).2.2.2.2
    · exact absurd e.symm ((hb z0).2.2.1 k' i' w1)
    · exact absurd e.symm (hb z0).2.2.2.1
    · exact absurd e.symm (hb z0).2.2.2.2
    · exact ⟨z1.trans w1.symm, z2.trans w2.symm⟩
  · rcases hcl k i (gh_cv.mp hk) with ⟨z1, z2, z3⟩ | ⟨z1, z2, z3⟩ | ⟨z1, z2, z3⟩ | ⟨z0, z1, z2, z3⟩ <;> rw [z3]
    · exact h3 k i (gh_cv.mpr z1)
    · exact hAa
    · exact hA
    · exact (hb z0).2.1
  · rw [gh_lc]
    by_cases e : jj = j
    · rw [e, hlc, e_11]; exact hcap
    · rcases hcl 10 jj (gh_cv.mp hk) with ⟨z1, z2, z3⟩ | ⟨z1, z2, -⟩ | ⟨z1, z2, -⟩ | ⟨z0, z1, z2, -⟩
      · rw [hlcE jj (by have := cv_cases z1; omega) e, e_11' jj e]
        have := h4 jj (gh_cv.mpr z1)
        rw [gh_lc] at this
        exact this
      · omega
      · exact absurd z2 e
      · omega
end GROW2
