/-! ONE WRITE INTO ONE CELL OF THE CLASS, a tag of its numbers -/
theorem cv_k {σ : St} {k i : Nat} (h : cv σ k i) : k ≤ 10 ∨ (20 ≤ k ∧ k ≤ 26) := by
  have h1 := h.1
  by_cases e : k ≤ 10 ∨ (20 ≤ k ∧ k ≤ 26)
  · exact e
  · unfold cn at h1
    rw [if_neg (by omega), if_neg (by omega), if_neg (by omega), if_neg (by omega), if_neg (by omega), if_neg (by omega), if_neg (by omega), if_neg (by omega), if_neg (by omega), if_neg (by omega)] at h1
    omega
theorem gh_sA {σ : St} {g : Nat → Nat → Int32} {t j : Nat} {x : Int32} (ht : t ≠ 90 ∧ t ≠ 91 ∧ t ≠ 92) : gh (sA σ t j x) g = sA (gh σ g) t j x := by
  funext u
  show (if u = 90 ∨ u = 91 ∨ u = 92 then g u else if u = t then upd (σ t) j x else σ u) = (if u = t then upd (if t = 90 ∨ t = 91 ∨ t = 92 then g t else σ t) j x else if u = 90 ∨ u = 91 ∨ u = 92 then g u else σ u)
  rw [if_neg (show ¬ (t = 90 ∨ t = 91 ∨ t = 92) by omega)]
  by_cases e : u = 90 ∨ u = 91 ∨ u = 92
  · rw [if_pos e, if_neg (by omega), if_pos e]
  · rw [if_neg e, if_neg e]
def plainT (t : Nat) : Prop := t ≠ 2 ∧ t ≠ 11 ∧ t ≠ 15 ∧ t ≠ 23 ∧ t ≠ 26 ∧ t ≠ 30 ∧ t ≠ 35 ∧ t ≠ 94 ∧ t ≠ 90 ∧ t ≠ 91 ∧ t ≠ 92 ∧ t < 400
theorem cn_i {σ : St} {k i : Nat} (hI : InvM σ) (h : cv σ k i) : k = 20 ∨ k = 24 → i < 100 := by
  intro e
  have h1 := h.1
  have h2 := cnt_le (N := 60) hI.1.2.1
  have h3 := cnt_le (N := 60) hI.1.2.2.2.2.2.2.2.1
  rcases e with rfl | rfl
  · have : i < nn σ 2 := h1
    omega
  · have : i < nn σ 30 := h1
    omega
section CW
variable {E : EV} {A : Nat → Prop} {σ : St} {L : Nat → Nat → Nat} {H H1 : Heap} {t j k0 i0 i : Nat} {x : Int32}
theorem cd_tag (h : Cd E A σ L H) (hI : InvM σ) (hv : cv σ k0 i0) (o : ∀ q : Nat, q ≠ L k0 i0 → H1[q]? = H[q]?) (hp : plainT t) (ht : ∀ k, uses k t → k = k0) (hne : ∀ i, i ≠ i0 → cv σ k0 i → ∀ g, ccont E (sA (gh σ g) t j x) L k0 i = ccont E (gh σ g) L k0 i) (hn : ∀ g, va_at E.1 vwCl (L k0 i0, ccont E (sA (gh σ g) t j x) L k0 i0) H1) : Cd E A (sA σ t j x) L H1 := by
  obtain ⟨p1, p2, p3, p4, p5, p6, p7, p8, p9, p10, p11, p12⟩ := hp
  have hg : ∀ g, gh (sA σ t j x) g = sA (gh σ g) t j x := fun g => gh_sA ⟨p9, p10, p11⟩
  refine cd_put h hv o (fun g => by rw [hg]; exact hn g) (fun g k i hk hne' => ?_) (fun j => lc_tag (t := t) (fun u hu => sA_ne hu) (by unfold uses; omega)) (fun k => ?_)
  · rw [hg]
    by_cases e : k = k0
    · subst e; exact hne i (fun z => hne' ⟨rfl, z⟩) hk g
    · exact cc_tag (t := t) (fun u hu => sA_ne hu) (fun z => e (ht k z)) (cn_i hI hk) (cv_k hk)
  · unfold cn nn
    rw [sA_ne (Ne.symm p1), sA_ne (Ne.symm p2), sA_ne (Ne.symm p3), sA_ne (Ne.symm p4), sA_ne (Ne.symm p5), sA_ne (Ne.symm p6), sA_ne (Ne.symm p7)]
theorem upd_ne {f : Nat → Int32} {j i : Nat} {x : Int32} (h : i ≠ j) : upd f j x i = f i := by simp [upd, h]
theorem upd_eq {f : Nat → Int32} {j : Nat} {x : Int32} : upd f j x j = x := by simp [upd]
theorem sA_at {σ : St} {t j : Nat} {x : Int32} {i : Nat} (h : i ≠ j) (u : Nat) : sA σ t j x u i = σ u i := by
  unfold sA
  by_cases e : u = t
  · rw [if_pos e, upd_ne h, e]
  · rw [if_neg e]
theorem sA_me {σ : St} {t j : Nat} {x : Int32} : sA σ t j x t j = x := by
  unfold sA
  rw [if_pos rfl, upd_eq]
theorem cw_not (h : Cd E A σ L H) (hI : InvM σ) (hi : i < nn σ 23) {f : Nat} (hf : (f = 4 ∧ t = 20) ∨ (f = 5 ∧ t = 93) ∨ (f = 6 ∧ t = 21) ∨ (f = 7 ∧ t = 22)) (ho : ob E (L 22 i) 7 ((fNot σ L i).set f (.int x)) H1) (o : ∀ q : Nat, q ≠ L 22 i → H1[q]? = H[q]?) : Cd E A (sA σ t i x) L H1 := by
  refine cd_tag h hI (k0 := 22) (i0 := i) (cv_of (by decide) hi) o (by unfold plainT; omega) (fun k hk => by unfold uses at hk; omega) (fun i' hne _ g => ?_) (fun g => ?_)
  · show (Sum.inr (7, fNot (sA (gh σ g) t i x) L i') : va_E) = Sum.inr (7, fNot (gh σ g) L i')
    unfold fNot
    rw [sA_at hne, sA_at hne, sA_at hne, sA_at hne, sA_at hne, sA_at hne, sA_at hne]
  · have e : fNot (sA (gh σ g) t i x) L i = (fNot σ L i).set f (.int x) := by
      rcases hf with ⟨rfl, rfl⟩ | ⟨rfl, rfl⟩ | ⟨rfl, rfl⟩ | ⟨rfl, rfl⟩ <;> (unfold fNot; rw [sA_me]; rfl)
    show ob E (L 22 i) 7 (fNot (sA (gh σ g) t i x) L i) H1
    rw [e]; exact ho
theorem cw_per (h : Cd E A σ L H) (hI : InvM σ) (hi : i < nn σ 11) (ho : ob E (L 21 i) 10 ((fPer σ L i).set 8 (va_rf (rfo L x))) H1) (o : ∀ q : Nat, q ≠ L 21 i → H1[q]? = H[q]?) : Cd E A (sA σ 10 i x) L H1 := by
  refine cd_tag h hI (k0 := 21) (i0 := i) (cv_of (by decide) hi) o (by unfold plainT; omega) (fun k hk => by unfold uses at hk; omega) (fun i' hne _ g => ?_) (fun g => ?_)
  · show (Sum.inr (10, fPer (sA (gh σ g) 10 i x) L i') : va_E) = Sum.inr (10, fPer (gh σ g) L i')
    unfold fPer
    rw [sA_at hne, sA_at hne, sA_at hne, sA_at hne, sA_at hne, sA_at hne, sA_at hne]
  · have e : fPer (sA (gh σ g) 10 i x) L i = (fPer σ L i).set 8 (va_rf (rfo L x)) := by
      unfold fPer; rw [sA_me]; rfl
    show ob E (L 21 i) 10 (fPer (sA (gh σ g) 10 i x) L i) H1
    rw [e]; exact ho
theorem cw_obj (h : Cd E A σ L H) (hI : InvM σ) (hi : i < nn σ 26) (hx : ¬ x = 0) (ho : ob E (L 23 i) 8 ((fObj σ L i).set 1 (.int 0)) H1) (o : ∀ q : Nat, q ≠ L 23 i → H1[q]? = H[q]?) : Cd E A (sA σ 25 i x) L H1 := by
  refine cd_tag h hI (k0 := 23) (i0 := i) (cv_of (by decide) hi) o (by unfold plainT; omega) (fun k hk => by unfold uses at hk; omega) (fun i' hne _ g => ?_) (fun g => ?_)
  · show (Sum.inr (8, fObj (sA (gh σ g) 25 i x) L i') : va_E) = Sum.inr (8, fObj (gh σ g) L i')
    unfold fObj
    rw [sA_at hne, sA_at hne]
  · have e : fObj (sA (gh σ g) 25 i x) L i = (fObj σ L i).set 1 (.int 0) := by
      unfold fObj; rw [sA_me, decide_eq_false hx]; rfl
    show ob E (L 23 i) 8 (fObj (sA (gh σ g) 25 i x) L i) H1
    rw [e]; exact ho
theorem cw_reg (h : Cd E A σ L H) (hI : InvM σ) {f : Nat} (hf : (f = 0 ∧ t = 0) ∨ (f = 2 ∧ t = 28)) (ho : ob E (L 0 0) 11 ((fReg σ L).set f (.int x)) H1) (o : ∀ q : Nat, q ≠ L 0 0 → H1[q]? = H[q]?) : Cd E A (sA σ t 0 x) L H1 := by
  refine cd_tag h hI (k0 := 0) (i0 := 0) (cv_of (by decide) Nat.zero_lt_one) o (by unfold plainT; omega) (fun k hk => by unfold uses at hk; omega) (fun i' hne hv g => ?_) (fun g => ?_)
  · have : i' < 1 := hv.1
    omega
  · have e : fReg (sA (gh σ g) t 0 x) L = (fReg σ L).set f (.int x) := by
      rcases hf with ⟨rfl, rfl⟩ | ⟨rfl, rfl⟩ <;> (unfold fReg; rw [sA_me]; rfl)
    show ob E (L 0 0) 11 (fReg (sA (gh σ g) t 0 x) L) H1
    rw [e]; exact ho
theorem cw_rt (h : Cd E A σ L H) (hI : InvM σ) (ho : ia E (L 1 0) 6 (upd (σ 27) j x) H1) (o : ∀ q : Nat, q ≠ L 1 0 → H1[q]? = H[q]?) : Cd E A (sA σ 27 j x) L H1 := by
  refine cd_tag h hI (k0 := 1) (i0 := 0) (cv_of (by decide) Nat.zero_lt_one) o (by unfold plainT; omega) (fun k hk => by unfold uses at hk; omega) (fun i' hne hv g => ?_) (fun g => ?_)
  · have : i' < 1 := hv.1
    omega
  · exact ho
theorem cw_tf (h : Cd E A σ L H) (hI : InvM σ) (ho : la E (L 3 0) 313 (pk (sA σ 16 j x)) H1) (o : ∀ q : Nat, q ≠ L 3 0 → H1[q]? = H[q]?) : Cd E A (sA σ 16 j x) L H1 := by
  refine cd_tag h hI (k0 := 3) (i0 := 0) (cv_of (by decide) Nat.zero_lt_one) o (by unfold plainT; omega) (fun k hk => by unfold uses at hk; omega) (fun i' hne hv g => ?_) (fun g => ?_)
  · have : i' < 1 := hv.1
    omega
  · exact ho
/-- a write into the plan -/
theorem cw_pl (h : Cd E A σ L H) {k n : Nat} (hk : (k = 7 ∧ n = 10) ∨ (k = 8 ∧ n = 60)) {f : Nat → Int32} (ho : ia E (L k 0) n f H1) (o : ∀ q : Nat, q ≠ L k 0 → H1[q]? = H[q]?) : Cd E A σ L H1 := by
  obtain ⟨g, h1, h2, h3, h4⟩ := h
  refine ⟨fun t => if t = 90 + (k - 7) then f else g t, ?_⟩
  generalize hg : (fun t => if t = 90 + (k - 7) then f else g t) = g1
  have hcv : ∀ k i, cv (gh σ g1) k i ↔ cv (gh σ g) k i := fun k i => by rw [gh_cv, gh_cv]
  have hgu : ∀ u, u ≠ 90 + (k - 7) → gh σ g1 u = gh σ g u := fun u hu => by
    unfold gh
    rw [← hg]
    by_cases e : u = 90 ∨ u = 91 ∨ u = 92
    · rw [if_pos e, if_pos e]; exact if_neg hu
    · rw [if_neg e, if_neg e]
  refine ⟨fun k' i hk' => ?_, fun k i k' i' a b => h2 k i k' i' ((hcv k i).mp a) ((hcv k' i').mp b), fun k i a => h3 k i ((hcv k i).mp a), fun j a => ?_⟩
  · have hk2 := (hcv k' i).mp hk'
    by_cases e : k' = k
    · subst e
      have hi : i = 0 := by
        have := hk2.1
        unfold cn at this
        rw [if_pos (by omega)] at this
        omega
      subst hi
      rcases hk with ⟨rfl, rfl⟩ | ⟨rfl, rfl⟩
      · show ia E (L 7 0) 10 (gh σ g1 90) H1
        rw [← hg]; exact ho
      · show ia E (L 8 0) 60 (gh σ g1 91) H1
        rw [← hg]; exact ho
    · have hu : ¬ uses k' (90 + (k - 7)) := by
        unfold uses
        omega
      have e2 : ccont E (gh σ g1) L k' i = ccont E (gh σ g) L k' i := by
        by_cases e3 : k' = 20 ∨ k' = 24
        · rcases e3 with rfl | rfl
          · show (Sum.inr (5, fLaw (gh σ g1) i) : va_E) = Sum.inr (5, fLaw (gh σ g) i)
            unfold fLaw
            rw [hgu (100 + i) (by omega)]
          · show (Sum.inr (4, fEnt (gh σ g1) L i) : va_E) = Sum.inr (4, fEnt (gh σ g) L i)
            unfold fEnt
            rw [hgu (200 + i) (by omega)]
        · exact cc_tag (t := 90 + (k - 7)) hgu hu (fun z => absurd z e3) (cv_k hk2)
      rw [e2]
      refine (h1 k' i hk2).kept (o _ (fun z => e ?_))
      refine (h2 k' i k 0 hk2 ?_ z).1
      exact gh_cv.mpr ⟨by unfold cn; rw [if_pos (by omega)]; omega, fun z => by omega⟩
  · have := h4 j ((hcv 10 j).mp a)
    rw [gh_lc] at this ⊢
    exact this
end CW
