/-! THE REFERENCE'S CELLS as one table of numbers: σ t j is place j of the array in slot t (rows of laws 100 + i, of entries 200 + i), σ t 0 the number in slot t -/
abbrev St : Type := Nat → Nat → Int32
def sA (σ : St) (t j : Nat) (v : Int32) : St := fun u => if u = t then upd (σ t) j v else σ u
def sF (σ : St) (t : Nat) (g : Nat → Int32) : St := fun u => if u = t then g else σ u
def mfs (σ : St) (M : Nat → Nat) : List Value := [.int (σ 0 0), .ref (M 1), .int (σ 2 0), .ref (M 3), .ref (M 4), .ref (M 5), .ref (M 6), .ref (M 7), .ref (M 8), .ref (M 9), .ref (M 10), .int (σ 11 0), .ref (M 12), .ref (M 13), .ref (M 14), .int (σ 15 0), .ref (M 16), .ref (M 17), .ref (M 18), .ref (M 19), .ref (M 20), .ref (M 21), .ref (M 22), .int (σ 23 0), .ref (M 24), .ref (M 25), .int (σ 26 0), .ref (M 27), .int (σ 28 0), .ref (M 29), .int (σ 30 0), .ref (M 31), .ref (M 32), .ref (M 33), .ref (M 34), .int (σ 35 0)]
def mscal (t : Nat) : Bool := t == 0 || t == 2 || t == 11 || t == 15 || t == 23 || t == 26 || t == 28 || t == 30 || t == 35
def mint (t : Nat) : Bool := (decide (3 ≤ t) && decide (t ≤ 10)) || (decide (12 ≤ t) && decide (t ≤ 14)) || (decide (17 ≤ t) && decide (t ≤ 22)) || t == 24 || t == 25 || t == 27 || (decide (31 ≤ t) && decide (t ≤ 34)) || (decide (100 ≤ t) && decide (t < 160)) || (decide (200 ≤ t) && decide (t < 260))
def mval (t : Nat) : Bool := t == 0 || t == 1 || t == 29 || t == 16 || mint t
def mlen (t : Nat) : Nat := if t ≤ 10 then (if t = 3 then 8 else 40) else if t ≤ 14 then 200 else if t = 27 then 6 else if t ≤ 30 then 60 else if t < 100 then 100 else 8
def mcont (E : EV) (σ : St) (M : Nat → Nat) (t : Nat) : va_E :=
  if t = 0 then .inr (12, mfs σ M)
  else if t = 1 then .inl (E.2 4, 60, .inr (.inr (.inr (.inr (fun i => if i < 60 then some (M (100 + i)) else none)))))
  else if t = 29 then .inl (E.2 4, 60, .inr (.inr (.inr (.inr (fun i => if i < 60 then some (M (200 + i)) else none)))))
  else if t = 16 then .inl (E.2 2, 20001, .inl (σ 16))
  else .inl (E.2 0, mlen t, .inl (σ t))
def Md0 (E : EV) (A : Nat → Prop) (σ : St) (M : Nat → Nat) (H : Heap) : Prop := (∀ t, mval t = true → va_at E.1 vwCl (M t, mcont E σ M t) H) ∧ (∀ t u, mval t = true → mval u = true → M t = M u → t = u) ∧ ∀ t, mval t = true → A (M t)
/-- the reference's picture; its own row 'law' may hold anything -/
def Md (E : EV) (A : Nat → Prop) (σ : St) (M : Nat → Nat) (H : Heap) : Prop := ∃ g : Nat → Int32, Md0 E A (sF σ 3 g) M H
theorem mint_val {t : Nat} (h : mint t = true) : mval t = true := by simp [mval, h]
theorem mint_ne {t : Nat} (h : mint t = true) : t ≠ 0 ∧ t ≠ 1 ∧ t ≠ 29 ∧ t ≠ 16 := by
  refine ⟨?_, ?_, ?_, ?_⟩ <;> (rintro rfl; exact absurd h (by decide))
theorem mscal_not {t : Nat} (h : mscal t = true) : mint t = false ∧ t ≠ 1 ∧ t ≠ 29 ∧ t ≠ 16 ∧ t ≠ 3 := by
  simp only [mscal, Bool.or_eq_true, beq_iff_eq] at h
  rcases h with (((((((h | h) | h) | h) | h) | h) | h) | h) | h <;> subst h <;> decide
section MODEL
variable {E : EV} {A : Nat → Prop} {σ : St} {M : Nat → Nat} {H H1 : Heap}
theorem md_obj (h : Md E A σ M H) : ob E (M 0) 12 (mfs σ M) H := by
  obtain ⟨g, h⟩ := h
  exact h.1 0 rfl
theorem md_int (h : Md E A σ M H) (t : Nat) (ht : mint t = true) (h3 : t ≠ 3) : ia E (M t) (mlen t) (σ t) H := by
  obtain ⟨g, h⟩ := h
  have h1 := h.1 t (mint_val ht)
  obtain ⟨n0, n1, n2, n3⟩ := mint_ne ht
  simp only [mcont, if_neg n0, if_neg n1, if_neg n2, if_neg n3, sF, if_neg h3] at h1
  exact h1
theorem md_scr (h : Md E A σ M H) : ∃ g, ia E (M 3) 8 g H := by
  obtain ⟨g, h⟩ := h
  exact ⟨g, h.1 3 rfl⟩
theorem md_bool (h : Md E A σ M H) : za E (M 16) 20001 (σ 16) H := by
  obtain ⟨g, h⟩ := h
  exact h.1 16 rfl
theorem md_laws (h : Md E A σ M H) : ra E (M 1) 60 (fun i => if i < 60 then some (M (100 + i)) else none) H := by
  obtain ⟨g, h⟩ := h
  exact h.1 1 rfl
theorem md_ents (h : Md E A σ M H) : ra E (M 29) 60 (fun i => if i < 60 then some (M (200 + i)) else none) H := by
  obtain ⟨g, h⟩ := h
  exact h.1 29 rfl
theorem md_A (h : Md E A σ M H) (t : Nat) (ht : mval t = true) : A (M t) := by
  obtain ⟨g, h⟩ := h
  exact h.2.2 t ht
theorem mfs_sA {t j : Nat} {x : Int32} (ht : mscal t = false) : mfs (sA σ t j x) M = mfs σ M := by
  simp only [mscal, Bool.or_eq_false_iff, beq_eq_false_iff_ne, ne_eq] at ht
  obtain ⟨⟨⟨⟨⟨⟨⟨⟨a0, a1⟩, a2⟩, a3⟩, a4⟩, a5⟩, a6⟩, a7⟩, a8⟩ := ht
  simp only [mfs, sA, if_neg (Ne.symm a0), if_neg (Ne.symm a1), if_neg (Ne.symm a2), if_neg (Ne.symm a3), if_neg (Ne.symm a4), if_neg (Ne.symm a5), if_neg (Ne.symm a6), if_neg (Ne.symm a7), if_neg (Ne.symm a8)]
theorem mfs_sF {t : Nat} {g : Nat → Int32} (ht : mscal t = false) : mfs (sF σ t g) M = mfs σ M := by
  simp only [mscal, Bool.or_eq_false_iff, beq_eq_false_iff_ne, ne_eq] at ht
  obtain ⟨⟨⟨⟨⟨⟨⟨⟨a0, a1⟩, a2⟩, a3⟩, a4⟩, a5⟩, a6⟩, a7⟩, a8⟩ := ht
  simp only [mfs, sF, if_neg (Ne.symm a0), if_neg (Ne.symm a1), if_neg (Ne.symm a2), if_neg (Ne.symm a3), if_neg (Ne.symm a4), if_neg (Ne.symm a5), if_neg (Ne.symm a6), if_neg (Ne.symm a7), if_neg (Ne.symm a8)]
theorem mint_scal {t : Nat} (h : mint t = true) : mscal t = false := by
  cases hs : mscal t with
  | false => rfl
  | true => rw [(mscal_not hs).1] at h; cases h
/-- a write into one cell: the others stay -/
theorem md_upd {σ1 : St} {u : Nat} (h : Md E A σ M H) (hu : mval u = true) (o : ∀ q : Nat, q ≠ M u → H1[q]? = H[q]?) (hn : ∃ g, va_at E.1 vwCl (M u, mcont E (sF σ1 3 g) M u) H1) (he : ∀ (g : Nat → Int32) (t : Nat), mval t = true → t ≠ u → t ≠ 3 → mcont E (sF σ1 3 g) M t = mcont E (sF σ 3 g) M t) (h3 : u = 3 ∨ ∀ g g' : Nat → Int32, mcont E (sF σ1 3 g) M u = mcont E (sF σ1 3 g') M u) : Md E A σ1 M H1 := by
  obtain ⟨g, h⟩ := h
  obtain ⟨g1, hn⟩ := hn
  by_cases hu3 : u = 3
  · refine ⟨g1, fun t ht => ?_, h.2.1, h.2.2⟩
    by_cases e : t = u
    · subst e; exact hn
    · have e1 := he g1 t ht e (by rw [← hu3]; exact e)
      have e2 : mcont E (sF σ 3 g1) M t = mcont E (sF σ 3 g) M t := by
        have t3 : t ≠ 3 := by rw [← hu3]; exact e
        have z1 : mfs (sF σ 3 g1) M = mfs (sF σ 3 g) M := by rw [mfs_sF rfl, mfs_sF rfl]
        simp only [mcont, z1, sF, if_neg t3]
        rfl
      rw [e1, e2]
      exact (h.1 t ht).kept (o _ (fun z => e (h.2.1 t u ht hu z)))
  · refine ⟨g, fun t ht => ?_, h.2.1, h.2.2⟩
    by_cases e : t = u
    · subst e
      rcases h3 with h3 | h3
      · exact absurd h3 hu3
      · rw [h3 g g1]; exact hn
    · by_cases t3 : t = 3
      · subst t3
        have := h.1 3 rfl
        exact this.kept (o _ (fun z => e (h.2.1 3 u rfl hu z)))
      · rw [he g t ht e t3]
        exact (h.1 t ht).kept (o _ (fun z => e (h.2.1 t u ht hu z)))
theorem md_ast (h : Md E A σ M H) {t j : Nat} {x : Int32} (ht : mint t = true) (h3 : t ≠ 3) (hi : ia E (M t) (mlen t) (upd (σ t) j x) H1) (o : ∀ q : Nat, q ≠ M t → H1[q]? = H[q]?) : Md E A (sA σ t j x) M H1 := by
  obtain ⟨n0, n1, n2, n3⟩ := mint_ne ht
  have hc : ∀ g : Nat → Int32, mcont E (sF (sA σ t j x) 3 g) M t = .inl (E.2 0, mlen t, .inl (upd (σ t) j x)) := fun g => by
    simp only [mcont, if_neg n0, if_neg n1, if_neg n2, if_neg n3, sF, if_neg h3, sA, if_pos]
  refine md_upd h (mint_val ht) o ⟨fun _ => 0, by rw [hc]; exact hi⟩ (fun g u hu hne hu3 => ?_) (Or.inr fun g g' => by rw [hc, hc])
  have z1 : mfs (sF (sA σ t j x) 3 g) M = mfs (sF σ 3 g) M := by rw [mfs_sF rfl, mfs_sF rfl, mfs_sA (mint_scal ht)]
  simp only [mcont, z1, sF, if_neg hu3, sA, if_neg hne]
  simp only [show ¬ (16 : Nat) = t from fun z => n3 z.symm, if_false, show ¬ (16 : Nat) = 3 by decide]
theorem md_zst (h : Md E A σ M H) {j : Nat} {x : Int32} (hi : za E (M 16) 20001 (upd (σ 16) j x) H1) (o : ∀ q : Nat, q ≠ M 16 → H1[q]? = H[q]?) : Md E A (sA σ 16 j x) M H1 := by
  refine md_upd h (u := 16) rfl o ⟨fun _ => 0, hi⟩ (fun g u hu hne hu3 => ?_) (Or.inr fun g g' => rfl)
  have z1 : mfs (sF (sA σ 16 j x) 3 g) M = mfs (sF σ 3 g) M := by rw [mfs_sF rfl, mfs_sF rfl, mfs_sA rfl]
  simp only [mcont, z1, sF, if_neg hu3, sA, if_neg hne]
theorem md_scw (h : Md E A σ M H) {g : Nat → Int32} (hi : ia E (M 3) 8 g H1) (o : ∀ q : Nat, q ≠ M 3 → H1[q]? = H[q]?) : Md E A σ M H1 :=
  md_upd h (u := 3) rfl o ⟨g, hi⟩ (fun _ _ _ _ _ => rfl) (Or.inl rfl)
theorem mfs_set {k : Nat} {x : Int32} (hk : mscal k = true) : (mfs σ M).set k (.int x) = mfs (sA σ k 0 x) M := by
  simp only [mscal, Bool.or_eq_true, beq_iff_eq] at hk
  rcases hk with (((((((h | h) | h) | h) | h) | h) | h) | h) | h <;> subst h <;> rfl
theorem md_put (h : Md E A σ M H) {k : Nat} {x : Int32} (hk : mscal k = true) (hi : ob E (M 0) 12 ((mfs σ M).set k (.int x)) H1) (o : ∀ q : Nat, q ≠ M 0 → H1[q]? = H[q]?) : Md E A (sA σ k 0 x) M H1 := by
  obtain ⟨m0, m1, m2, m3, m4⟩ := mscal_not hk
  rw [mfs_set hk] at hi
  refine md_upd h (u := 0) rfl o ⟨fun _ => 0, by simp only [mcont, if_pos, mfs_sF (σ := sA σ k 0 x) (t := 3) rfl]; exact hi⟩ (fun g u hu hne hu3 => ?_) (Or.inr fun g g' => by simp only [mcont, if_pos, mfs_sF (σ := sA σ k 0 x) (t := 3) rfl])
  have hk2 : u = 1 ∨ u = 29 ∨ u ≠ k := by
    by_cases e : u = k
    · subst e
      simp only [mval, Bool.or_eq_true, beq_iff_eq, m0, Bool.false_eq_true, or_false] at hu
      omega
    · exact Or.inr (Or.inr e)
  simp only [mcont, if_neg hne]
  rcases hk2 with e | e | e
  · subst e; rfl
  · subst e; rfl
  · simp only [sF, if_neg hu3, sA, if_neg e]
    simp only [show ¬ (16 : Nat) = k from fun z => m3 z.symm, if_false, show ¬ (16 : Nat) = 3 by decide]
/-- the picture stays where its cells do -/
theorem md_kept (h : Md E A σ M H) (o : ∀ t, mval t = true → H1[M t]? = H[M t]?) : Md E A σ M H1 := by
  obtain ⟨g, h⟩ := h
  exact ⟨g, fun t ht => (h.1 t ht).kept (o t ht), h.2⟩
end MODEL
