/-! THE CLASS'S CELLS: by kind and number, over the reference's numbers and a few of its own: 90, 91 the plan, 92 the lists' counts of changes, 93 the standing objections, 94 how many papers each has, 400 + p which ones -/
def bitsN (f : Nat → Bool) : Nat → Nat
  | 0 => 0
  | n + 1 => bitsN f n + (if f n then 2 ^ n else 0)
def fb (σ : St) (w b : Nat) : Bool := !decide (σ 16 (64 * w + b) = 0)
def pk (σ : St) (w : Nat) : Int64 := lN (bitsN (fb σ w) 64)
def lc (σ : St) (j : Nat) : Nat := if j = 0 then nn σ 2 else if j = 1 then nn σ 11 else if j = 2 then nn σ 23 else if j = 3 then nn σ 26 else if j = 4 then nn σ 30 else if j = 5 then nn σ 35 else (σ 94 (j - 6)).toNatClampNeg
def le_ (σ : St) (L : Nat → Nat → Nat) (j i : Nat) : Nat := if j < 6 then L (20 + j) i else L 26 (σ (400 + (j - 6)) i).toNatClampNeg
def rfo (L : Nat → Nat → Nat) (x : Int32) : Option Nat := if x = -1 then none else some (L 21 x.toNatClampNeg)
def fReg (σ : St) (L : Nat → Nat → Nat) : List Value := [.int (σ 0 0), .int (σ 15 0), .int (σ 28 0), .ref (L 1 0), .ref (L 2 0), .ref (L 4 0), .ref (L 9 1), .ref (L 9 2), .ref (L 9 3), .ref (L 9 4), .ref (L 9 5), .ref (L 6 0)]
def fLst (E : EV) (σ : St) (L : Nat → Nat → Nat) (j : Nat) : List Value := [.int (σ 92 j), .ref (if lc σ j = 0 then E.2 11 else L 10 j), .int (nI (lc σ j))]
def fLaw (σ : St) (i : Nat) : List Value := [.int (σ (100 + i) 0), .int (σ (100 + i) 1), .int (σ (100 + i) 2), .int (σ (100 + i) 3), .int (σ (100 + i) 4), .int (σ (100 + i) 7), .int (σ (100 + i) 5), .int (σ (100 + i) 6)]
def fPer (σ : St) (L : Nat → Nat → Nat) (i : Nat) : List Value := [.int (nI i), .int (σ 4 i), .int (σ 8 i), .int (σ 9 i), .int (σ 5 i), va_rf (rfo L (σ 6 i)), va_rf (rfo L (σ 7 i)), .ref (L 9 (6 + i)), va_rf (rfo L (σ 10 i))]
def fNot (σ : St) (L : Nat → Nat → Nat) (i : Nat) : List Value := [.int (nI i), .ref (L 21 (σ 17 i).toNatClampNeg), .ref (L 21 (σ 18 i).toNatClampNeg), .int (σ 19 i), .int (σ 20 i), .int (σ 93 i), .int (σ 21 i), .int (σ 22 i)]
def fObj (σ : St) (L : Nat → Nat → Nat) (i : Nat) : List Value := [.ref (L 22 (σ 24 i).toNatClampNeg), .int (bI (decide (σ 25 i = 0)))]
def fEnt (σ : St) (L : Nat → Nat → Nat) (i : Nat) : List Value := [.ref (L 22 (σ (200 + i) 7).toNatClampNeg), .int (σ (200 + i) 0), .int (σ (200 + i) 1), .int (σ (200 + i) 2), .int (σ (200 + i) 3), .int (σ (200 + i) 4)]
def fCor (σ : St) (i : Nat) : List Value := [.int (σ 31 i), .int (σ 32 i), .int (σ 33 i), .int (σ 34 i)]
def fPap (σ : St) (i : Nat) : List Value := [.int (σ 13 i), .int (σ 14 i)]
def ccont (E : EV) (σ : St) (L : Nat → Nat → Nat) (k i : Nat) : va_E :=
  if k = 0 then .inr (11, fReg σ L) else if k = 1 then .inl (E.2 0, 6, .inl (σ 27)) else if k = 2 then .inr (1, [.ref (L 3 0)])
  else if k = 3 then .inl (E.2 1, 313, .inr (.inl (pk σ))) else if k = 4 then .inr (6, [.ref (L 9 0), .ref (L 5 0)])
  else if k = 5 then .inr (5, [.int (-1), .int (-1), .int 0, .int 0, .int 0, .int 0, .int 1, .int 0]) else if k = 6 then .inr (3, [.ref (L 7 0), .ref (L 8 0)])
  else if k = 7 then .inl (E.2 0, 10, .inl (σ 90)) else if k = 8 then .inl (E.2 0, 60, .inl (σ 91))
  else if k = 9 then .inr (0, fLst E σ L i) else if k = 10 then .inl (E.2 3, L 11 i, .inr (.inr (.inr (.inr (fl (lc σ i) (le_ σ L i))))))
  else if k = 20 then .inr (5, fLaw σ i) else if k = 21 then .inr (10, fPer σ L i) else if k = 22 then .inr (7, fNot σ L i)
  else if k = 23 then .inr (8, fObj σ L i) else if k = 24 then .inr (4, fEnt σ L i) else if k = 25 then .inr (2, fCor σ i) else .inr (9, fPap σ i)
/-- how many cells of a kind there are -/
def cn (σ : St) (k : Nat) : Nat := if k ≤ 8 then 1 else if k = 9 then 6 + nn σ 11 else if k = 10 then 6 + nn σ 11 else if k = 20 then nn σ 2 else if k = 21 then nn σ 11 else if k = 22 then nn σ 23 else if k = 23 then nn σ 26 else if k = 24 then nn σ 30 else if k = 25 then nn σ 35 else if k = 26 then nn σ 15 else 0
def cv (σ : St) (k i : Nat) : Prop := i < cn σ k ∧ (k = 10 → lc σ i ≠ 0)
/-- the lengths that a list's array comes to -/
def capOK (c : Nat) : Prop := c = 10 ∨ c = 15 ∨ c = 22 ∨ c = 33 ∨ c = 49 ∨ c = 73 ∨ c = 109 ∨ c = 163 ∨ c = 244
theorem capOK_le {c : Nat} (h : capOK c) : 10 ≤ c ∧ c ≤ 250 := by unfold capOK at h; omega
def Cd0 (E : EV) (A : Nat → Prop) (σ : St) (L : Nat → Nat → Nat) (H : Heap) : Prop :=
  (∀ k i, cv σ k i → va_at E.1 vwCl (L k i, ccont E σ L k i) H) ∧ (∀ k i k' i', cv σ k i → cv σ k' i' → L k i = L k' i' → k = k' ∧ i = i') ∧ (∀ k i, cv σ k i → A (L k i)) ∧ (∀ j, cv σ 10 j → lc σ j ≤ L 11 j ∧ capOK (L 11 j))
/-- numbers of the class's own that no call shows -/
def gh (σ : St) (g : Nat → Nat → Int32) : St := fun t => if t = 90 ∨ t = 91 ∨ t = 92 then g t else σ t
def Cd (E : EV) (A : Nat → Prop) (σ : St) (L : Nat → Nat → Nat) (H : Heap) : Prop := ∃ g, Cd0 E A (gh σ g) L H
theorem gh_lt {σ : St} {g : Nat → Nat → Int32} {t : Nat} (h : t < 90 ∨ 92 < t) : gh σ g t = σ t := if_neg (by omega)
theorem gh_nn {σ : St} {g : Nat → Nat → Int32} {t : Nat} (h : t < 90) : nn (gh σ g) t = nn σ t := by unfold nn; rw [gh_lt (Or.inl h)]
theorem gh_lc {σ : St} {g : Nat → Nat → Int32} {j : Nat} : lc (gh σ g) j = lc σ j := by
  unfold lc
  rw [gh_nn (by omega), gh_nn (by omega), gh_nn (by omega), gh_nn (by omega), gh_nn (by omega), gh_nn (by omega), gh_lt (t := 94) (by omega)]
theorem gh_le {σ : St} {g : Nat → Nat → Int32} {L : Nat → Nat → Nat} {j : Nat} : le_ (gh σ g) L j = le_ σ L j := by
  funext i
  unfold le_
  rw [gh_lt (t := 400 + (j - 6)) (by omega)]
theorem gh_cn {σ : St} {g : Nat → Nat → Int32} {k : Nat} : cn (gh σ g) k = cn σ k := by
  unfold cn
  rw [gh_nn (by omega), gh_nn (by omega), gh_nn (by omega), gh_nn (by omega), gh_nn (by omega), gh_nn (by omega), gh_nn (by omega)]
theorem gh_cv {σ : St} {g : Nat → Nat → Int32} {k i : Nat} : cv (gh σ g) k i ↔ cv σ k i := by unfold cv; rw [gh_cn, gh_lc]
section CLASSP
variable {E : EV} {A : Nat → Prop} {σ : St} {L : Nat → Nat → Nat} {H H1 : Heap}
theorem cd_fix (h : Cd E A σ L H) {k : Nat} (hk : k ≤ 8) : ∃ g, va_at E.1 vwCl (L k 0, ccont E (gh σ g) L k 0) H := by
  obtain ⟨g, h⟩ := h
  exact ⟨g, h.1 k 0 ⟨by unfold cn; rw [if_pos hk]; omega, fun e => by omega⟩⟩
theorem cd_reg (h : Cd E A σ L H) : ob E (L 0 0) 11 (fReg σ L) H := by
  obtain ⟨g, h⟩ := cd_fix h (k := 0) (by omega); exact h
theorem cd_rt (h : Cd E A σ L H) : ia E (L 1 0) 6 (σ 27) H := by
  obtain ⟨g, h⟩ := cd_fix h (k := 1) (by omega); exact h
theorem cd_cal (h : Cd E A σ L H) : ob E (L 2 0) 1 [.ref (L 3 0)] H := by
  obtain ⟨g, h⟩ := cd_fix h (k := 2) (by omega); exact h
theorem cd_tf (h : Cd E A σ L H) : la E (L 3 0) 313 (pk σ) H := by
  obtain ⟨g, h⟩ := cd_fix h (k := 3) (by omega); exact h
theorem cd_lb (h : Cd E A σ L H) : ob E (L 4 0) 6 [.ref (L 9 0), .ref (L 5 0)] H := by
  obtain ⟨g, h⟩ := cd_fix h (k := 4) (by omega); exact h
theorem cd_na (h : Cd E A σ L H) : ob E (L 5 0) 5 [.int (-1), .int (-1), .int 0, .int 0, .int 0, .int 0, .int 1, .int 0] H := by
  obtain ⟨g, h⟩ := cd_fix h (k := 5) (by omega); exact h
theorem cd_pl (h : Cd E A σ L H) : ob E (L 6 0) 3 [.ref (L 7 0), .ref (L 8 0)] H := by
  obtain ⟨g, h⟩ := cd_fix h (k := 6) (by omega); exact h
theorem cd_th (h : Cd E A σ L H) : ∃ g, ia E (L 7 0) 10 g H := by
  obtain ⟨g, h⟩ := cd_fix h (k := 7) (by omega); exact ⟨_, h⟩
theorem cd_hr (h : Cd E A σ L H) : ∃ g, ia E (L 8 0) 60 g H := by
  obtain ⟨g, h⟩ := cd_fix h (k := 8) (by omega); exact ⟨_, h⟩
theorem cd_at (h : Cd E A σ L H) {k i : Nat} (hv : cv σ k i) : ∃ g, va_at E.1 vwCl (L k i, ccont E (gh σ g) L k i) H := by
  obtain ⟨g, h⟩ := h
  exact ⟨g, h.1 k i (gh_cv.mpr hv)⟩
theorem cv_of {k i : Nat} (hk : k ≠ 10) (h : i < cn σ k) : cv σ k i := ⟨h, fun e => absurd e hk⟩
theorem cd_law (h : Cd E A σ L H) {i : Nat} (hi : i < nn σ 2) : ob E (L 20 i) 5 (fLaw σ i) H := by
  obtain ⟨g, h⟩ := cd_at h (k := 20) (cv_of (by decide) hi)
  have e : fLaw (gh σ g) i = fLaw σ i := by unfold fLaw; rw [gh_lt (t := 100 + i) (by omega)]
  rw [← e]
  exact h
theorem cd_per (h : Cd E A σ L H) {i : Nat} (hi : i < nn σ 11) : ob E (L 21 i) 10 (fPer σ L i) H := by
  obtain ⟨g, h⟩ := cd_at h (k := 21) (cv_of (by decide) hi); exact h
theorem cd_not (h : Cd E A σ L H) {i : Nat} (hi : i < nn σ 23) : ob E (L 22 i) 7 (fNot σ L i) H := by
  obtain ⟨g, h⟩ := cd_at h (k := 22) (cv_of (by decide) hi); exact h
theorem cd_obj (h : Cd E A σ L H) {i : Nat} (hi : i < nn σ 26) : ob E (L 23 i) 8 (fObj σ L i) H := by
  obtain ⟨g, h⟩ := cd_at h (k := 23) (cv_of (by decide) hi); exact h
theorem cd_ent (h : Cd E A σ L H) {i : Nat} (hi : i < nn σ 30) : ob E (L 24 i) 4 (fEnt σ L i) H := by
  obtain ⟨g, h⟩ := cd_at h (k := 24) (cv_of (by decide) hi)
  have e : fEnt (gh σ g) L i = fEnt σ L i := by unfold fEnt; rw [gh_lt (t := 200 + i) (by omega)]
  rw [← e]
  exact h
theorem cd_cor (h : Cd E A σ L H) {i : Nat} (hi : i < nn σ 35) : ob E (L 25 i) 2 (fCor σ i) H := by
  obtain ⟨g, h⟩ := cd_at h (k := 25) (cv_of (by decide) hi); exact h
theorem cd_pap (h : Cd E A σ L H) {i : Nat} (hi : i < nn σ 15) : ob E (L 26 i) 9 (fPap σ i) H := by
  obtain ⟨g, h⟩ := cd_at h (k := 26) (cv_of (by decide) hi); exact h
theorem cd_A (h : Cd E A σ L H) {k i : Nat} (hv : cv σ k i) : A (L k i) := by
  obtain ⟨g, h⟩ := h
  exact h.2.2.1 k i (gh_cv.mpr hv)
theorem cd_inj (h : Cd E A σ L H) {k i k' i' : Nat} (hv : cv σ k i) (hv' : cv σ k' i') (e : L k i = L k' i') : k = k' ∧ i = i' := by
  obtain ⟨g, h⟩ := h
  exact h.2.1 k i k' i' (gh_cv.mpr hv) (gh_cv.mpr hv') e
/-- a list: its object, and its array -/
theorem cd_lst (h : Cd E A σ L H) {j : Nat} (hj : j < 6 + nn σ 11) : ∃ (md : Int32) (ar cap : Nat), ob E (L 9 j) 0 [.int md, .ref ar, .int (nI (lc σ j))] H ∧ arOK E A ar (lc σ j) cap (le_ σ L j) H ∧ cap ≤ 250 ∧ ar = (if lc σ j = 0 then E.2 11 else L 10 j) ∧ cap = (if lc σ j = 0 then 0 else L 11 j) := by
  obtain ⟨g, h⟩ := h
  have h1 := h.1 9 j (gh_cv.mpr (cv_of (by decide) hj))
  have h1 : ob E (L 9 j) 0 (fLst E (gh σ g) L j) H := h1
  unfold fLst at h1
  rw [gh_lc] at h1
  refine ⟨_, _, if lc σ j = 0 then 0 else L 11 j, h1, ?_, ?_, rfl, rfl⟩
  · by_cases e : lc σ j = 0
    · rw [if_pos e, if_pos e]; exact Or.inl ⟨e, rfl, rfl⟩
    · have hv : cv σ 10 j := ⟨hj, fun _ => e⟩
      have h2 := h.1 10 j (gh_cv.mpr hv)
      have h2 : qa E (L 10 j) (L 11 j) (fl (lc (gh σ g) j) (le_ (gh σ g) L j)) H := h2
      rw [gh_lc, gh_le] at h2
      have h3 := h.2.2.2 j (gh_cv.mpr hv)
      rw [gh_lc] at h3
      rw [if_neg e, if_neg e]
      exact Or.inr ⟨by omega, h3.1, h2, h.2.2.1 10 j (gh_cv.mpr hv)⟩
  · by_cases e : lc σ j = 0
    · rw [if_pos e]; omega
    · rw [if_neg e]; exact (capOK_le (h.2.2.2 j (gh_cv.mpr ⟨hj, fun _ => e⟩)).2).2
theorem cd_cap (h : Cd E A σ L H) {j : Nat} (hv : cv σ 10 j) : capOK (L 11 j) := by
  obtain ⟨g, h⟩ := h
  exact (h.2.2.2 j (gh_cv.mpr hv)).2
theorem Cr.pre {α : Type} {l : Launch} {y : MethodName} {cc : ByteArray} {nL : Nat} {ret : Option FieldType} {fr lo : Nat} {av : List Value} {P : α → Heap → Prop} {P' : Heap → Prop} {rv : Option Value} (hM : ∀ x, Cr l E y cc nL ret fr lo av (P x) rv) (h : ∀ H, P' H → ∃ x, P x H) : Cr l E y cc nL ret fr lo av P' rv := by
  intro p e h1 h2 h3 s m args below h4 h5 h6 h7
  obtain ⟨x, hx⟩ := h s.heap h6.2.1
  exact hM x p e h1 h2 h3 s m args below h4 h5 ⟨h6.1, hx, h6.2.2⟩ h7
/-- size() and get(i) of one of the lists -/
theorem c_Lsize (l : Launch) (E : EV) (A : Nat → Prop) (σ : St) (L : Nat → Nat → Nat) (j : Nat) : Cr l E yJx4a65c_size_8abf5 cJx4a65c_size_8abf5 1 (some .int) 0 0 [.ref (L 9 j)] (fun H => Cd E A σ L H ∧ j < 6 + nn σ 11) (some (.int (nI (lc σ j)))) :=
  Cr.pre (P := fun (x : Nat × Int32) H => ob E (L 9 j) 0 [.int x.2, .ref x.1, .int (nI (lc σ j))] H) (fun x => c_lsize l E (L 9 j) x.1 x.2 (nI (lc σ j))) (fun H h => by
    obtain ⟨md, ar, cap, h1, -⟩ := cd_lst h.1 h.2
    exact ⟨(ar, md), h1⟩)
theorem c_Lget (l : Launch) (E : EV) (A : Nat → Prop) (σ : St) (L : Nat → Nat → Nat) (j i : Nat) : Cr l E yJx4a65c_get_915e3 cJx4a65c_get_915e3 2 (some (.object "java/lang/Object")) 2 43 [.ref (L 9 j), .int (nI i)] (fun H => Cd E A σ L H ∧ j < 6 + nn σ 11 ∧ i < lc σ j) (some (.ref (le_ σ L j i))) :=
  Cr.pre (P := fun (x : Nat × Nat × Int32) H => ob E (L 9 j) 0 [.int x.2.2, .ref x.1, .int (nI (lc σ j))] H ∧ qa E x.1 x.2.1 (fl (lc σ j) (le_ σ L j)) H ∧ i < lc σ j ∧ lc σ j ≤ x.2.1 ∧ x.2.1 < 2 ^ 31 ∧ fl (lc σ j) (le_ σ L j) i = some (le_ σ L j i)) (fun x => c_lget l E (L 9 j) x.1 x.2.1 (fl (lc σ j) (le_ σ L j)) x.2.2 (lc σ j) i (le_ σ L j i)) (fun H h => by
    obtain ⟨md, ar, cap, h1, h2, h3, -⟩ := cd_lst h.1 h.2.1
    have hi := h.2.2
    rcases h2 with h2 | h2
    · omega
    · exact ⟨(ar, cap, md), h1, h2.2.2.1, hi, h2.2.1, by show cap < _; omega, if_pos hi⟩)
end CLASSP
