/-! THE CLASS'S METHODS as functions of the numbers -/
theorem isP_eq {σ : St} {x : Int32} (hI : InvM σ) : m_isP σ x = (!decide (x < 0) && decide (x < σ 11 0)) := by
  have h := cnt_pred hI.1.2.2.1
  have e0 : (0 : Int32).toInt = 0 := rfl
  unfold m_isP m_in
  congr 1
  rw [← decide_not]
  apply decide_eq_decide.mpr
  rw [i_lt, i_lt, h]
  omega
theorem isN_eq {σ : St} {x : Int32} (hI : InvM σ) : m_isN σ x = (!decide (x < 0) && decide (x < σ 23 0)) := by
  have h := cnt_pred hI.1.2.2.2.2.1
  unfold m_isN m_in
  congr 1
  rw [← decide_not]
  apply decide_eq_decide.mpr
  rw [i_lt, i_lt, h]
  omega
theorem isE_eq {σ : St} {x : Int32} (hI : InvM σ) : m_in x 0 (σ 30 0 - 1) = (!decide (x < 0) && decide (x < σ 30 0)) := by
  have h := cnt_pred hI.1.2.2.2.2.2.2.2.1
  unfold m_in
  congr 1
  rw [← decide_not]
  apply decide_eq_decide.mpr
  rw [i_lt, i_lt, h]
  omega
theorem in_ok {σ : St} {t : Nat} {x : Int32} (h1 : ¬ x < 0) (h2 : ¬ σ t 0 ≤ x) : 0 ≤ x.toInt ∧ x.toInt < (σ t 0).toInt := by
  rw [i_lt] at h1
  rw [i_le] at h2
  have e0 : (0 : Int32).toInt = 0 := rfl
  exact ⟨by omega, by omega⟩
def c_cbp (σ : St) (f m : Int32) : Bool := (decide (f = -1) || m_isP σ f) && ((decide (m = -1) || m_isP σ m) && (decide (f = -1) || !decide (f = m)))
def c_isOf (σ : St) (x a b : Int32) : Bool := (decide (gA σ 17 x = a) && decide (gA σ 18 x = b)) || (decide (gA σ 17 x = b) && decide (gA σ 18 x = a))
def c_child (σ : St) (x y : Int32) : Bool := decide (gA σ 6 x = y) || decide (gA σ 7 x = y)
def c_shares (σ : St) (x y : Int32) : Bool := (!decide (gA σ 6 x = -1) && decide (gA σ 6 x = gA σ 6 y)) || (!decide (gA σ 7 x = -1) && decide (gA σ 7 x = gA σ 7 y))
/-- the law of number b, or none -/
def lawA (L : Nat → Nat → Nat) (b : Int32) : Nat := if b = -1 then L 5 0 else L 20 b.toNatClampNeg
def lf (σ : St) (b : Int32) (j : Nat) (d : Int32) : Int32 := if b = -1 then d else gR σ 100 b j
def c_ifC (σ : St) (land day k b : Int32) : Bool := decide (gR σ 100 k 0 = land) && (!decide (day < gR σ 100 k 1) && !decide (gR σ 100 k 1 < lf σ b 1 (-1)))
section CSPEC
variable {E : EV} {A : Nat → Prop} {σ : St} {L : Nat → Nat → Nat} {H H1 : Heap}
theorem cd_lex (h : Cd E A σ L H) {j : Nat} (hj : j < 6 + nn σ 11) : ∃ fs : List Value, ob E (L 9 j) 0 fs H := by
  obtain ⟨md, ar, cap, h1, -⟩ := cd_lst h hj
  exact ⟨_, h1⟩
theorem cd_lawA (h : Cd E A σ L H) {b : Int32} (hb : b = -1 ∨ okL σ b) : ob E (lawA L b) 5 [.int (lf σ b 0 (-1)), .int (lf σ b 1 (-1)), .int (lf σ b 2 0), .int (lf σ b 3 0), .int (lf σ b 4 0), .int (lf σ b 7 0), .int (lf σ b 5 1), .int (lf σ b 6 0)] H := by
  by_cases e : b = -1
  · simp only [lawA, lf, if_pos e]; exact cd_na h
  · simp only [lawA, lf, if_neg e]; exact cd_law h (ok_lt (t := 2) (hb.resolve_left e))
theorem best_ok {ld dy : Int32} (hI : InvM σ) : m_best σ ld dy = -1 ∨ okL σ (m_best σ ld dy) := by
  rcases m_best_in (σ := σ) (land := ld) (day := dy) (nn σ 2) 0 (-1) (by omega) (Or.inl rfl) with h | ⟨j, hj, h⟩
  · exact Or.inl h
  · refine Or.inr ?_
    have e : m_best σ ld dy = nI j := h
    rw [e]
    exact ok_nI hI.1.2.1 hj
theorem lf_ask {ld dy d : Int32} {j : Nat} (hd : d = m_def j) : lf σ (m_best σ ld dy) j d = m_ask σ ld dy j := by
  unfold lf m_ask
  by_cases e : m_best σ ld dy = -1
  · rw [if_pos e, if_pos (by simp [e]), hd]
  · rw [if_neg e, if_neg (by simp [e])]
theorem cd_lawR (h : Cd E A σ L H) (hI : InvM σ) (ld dy : Int32) : ob E (lawA L (m_best σ ld dy)) 5 [.int (lf σ (m_best σ ld dy) 0 (-1)), .int (lf σ (m_best σ ld dy) 1 (-1)), .int (m_ask σ ld dy 2), .int (m_ask σ ld dy 3), .int (m_ask σ ld dy 4), .int (m_ask σ ld dy 7), .int (m_ask σ ld dy 5), .int (m_ask σ ld dy 6)] H := by
  have h1 := cd_lawA h (best_ok (ld := ld) (dy := dy) hI)
  rw [lf_ask (j := 2) (d := 0) rfl, lf_ask (j := 3) (d := 0) rfl, lf_ask (j := 4) (d := 0) rfl, lf_ask (j := 7) (d := 0) rfl, lf_ask (j := 5) (d := 1) rfl, lf_ask (j := 6) (d := 0) rfl] at h1
  exact h1
end CSPEC
/-- laws begin on days that aren't below 0 -/
def InvL (σ : St) : Prop := ∀ i, i < nn σ 2 → 0 ≤ (σ (100 + i) 1).toInt
theorem ifC_eq {σ : St} {land day b : Int32} {k : Nat} (hI : InvM σ) (hL : InvL σ) (hk : k < nn σ 2) : c_ifC σ land day (nI k) b = m_ifC σ land day (nI k) b := by
  unfold c_ifC m_ifC lf
  have hn := cnt_le (N := 60) hI.1.2.1
  by_cases e : b = -1
  · have h1 : ¬ gR σ 100 (nI k) 1 < -1 := by
      have h2 := hL k hk
      have e1 : gR σ 100 (nI k) 1 = σ (100 + k) 1 := by unfold gR; rw [nI_clamp (by omega)]
      rw [i_lt, e1]
      have : (-1 : Int32).toInt = -1 := rfl
      omega
    simp [e, h1]
  · simp [e]
def c_nearAs (σ : St) (p y : Int32) : Bool := !decide (p = -1) && (c_shares σ p y || c_child σ p y)
def c_near (σ : St) (x y : Int32) : Bool := c_nearAs σ (gA σ 6 x) y || c_nearAs σ (gA σ 7 x) y
def c_shP (σ : St) (p q : Int32) : Bool := !decide (p = -1) && (!decide (q = -1) && (!decide (p = q) && c_shares σ p q))
def c_cous (σ : St) (p y : Int32) : Bool := c_shP σ p (gA σ 6 y) || c_shP σ p (gA σ 7 y)
def k_kinOf (σ : St) (a b : Int32) : Int32 := if c_child σ a b || c_child σ b a || c_shares σ a b then 1 else if c_near σ a b || c_near σ b a then 2 else if c_cous σ (gA σ 6 a) b || c_cous σ (gA σ 7 a) b then 3 else 0
theorem lawA_nI {L : Nat → Nat → Nat} {k : Nat} (h : k < 2 ^ 31) : L 20 (nI k).toNatClampNeg = lawA L (nI k) := by
  unfold lawA
  rw [if_neg (fun e => by
    have h1 : (nI k).toInt = -1 := by rw [e]; rfl
    rw [nI_toInt h] at h1
    omega)]
/-! the papers of a person -/
def gP (σ : St) (x q : Int32) : Int32 := σ (400 + x.toNatClampNeg) q.toNatClampNeg
def okK (σ : St) (x : Int32) : Prop := 0 ≤ x.toInt ∧ x.toInt < (σ 15 0).toInt
def okQ (σ : St) (x q : Int32) : Prop := 0 ≤ q.toInt ∧ q.toInt < (gA σ 94 x).toInt
def InvP (σ : St) : Prop := ∀ x, okP σ x → bnd (gA σ 94 x) 200 ∧ ∀ q, okQ σ x q → okK σ (gP σ x q)
theorem pap_ok {σ : St} {x q : Int32} (hK : InvP σ) (hx : okP σ x) (hq : okQ σ x q) : okK σ (gP σ x q) := (hK x hx).2 q hq
theorem lc_p {σ : St} {i : Nat} : lc σ (6 + i) = (σ 94 i).toNatClampNeg := by
  unfold lc
  rw [if_neg (by omega), if_neg (by omega), if_neg (by omega), if_neg (by omega), if_neg (by omega), if_neg (by omega)]
  rw [show 6 + i - 6 = i by omega]
theorem le_p {σ : St} {L : Nat → Nat → Nat} {i q : Nat} : le_ σ L (6 + i) q = L 26 (σ (400 + i) q).toNatClampNeg := by
  unfold le_
  rw [if_neg (by omega), show 6 + i - 6 = i by omega]
theorem c_LSp (l : Launch) (E : EV) (A : Nat → Prop) (σ : St) (L : Nat → Nat → Nat) (x : Int32) : Cr l E yJx4a65c_size_8abf5 cJx4a65c_size_8abf5 1 (some .int) 0 0 [.ref (L 9 (6 + x.toNatClampNeg))] (fun H => Cd E A σ L H ∧ okP σ x ∧ InvP σ) (some (.int (gA σ 94 x))) :=
  Cr.pre (P := fun (y : PLift (okP σ x ∧ InvP σ)) H => Cd E A σ L H ∧ 6 + x.toNatClampNeg < 6 + nn σ 11) (fun y => by
    obtain ⟨hx, hK⟩ := y
    have h := c_Lsize l E A σ L (6 + x.toNatClampNeg)
    rw [lc_p, show nI (σ 94 x.toNatClampNeg).toNatClampNeg = gA σ 94 x from (okX_nI (hK x hx).1.1).symm] at h
    exact h) (fun H h => ⟨⟨h.2⟩, h.1, by have := okP_lt h.2.1; omega⟩)
theorem c_LGp (l : Launch) (E : EV) (A : Nat → Prop) (σ : St) (L : Nat → Nat → Nat) (x q : Int32) : Cr l E yJx4a65c_get_915e3 cJx4a65c_get_915e3 2 (some (.object "java/lang/Object")) 2 43 [.ref (L 9 (6 + x.toNatClampNeg)), .int q] (fun H => Cd E A σ L H ∧ okP σ x ∧ InvP σ ∧ okQ σ x q) (some (.ref (L 26 (gP σ x q).toNatClampNeg))) :=
  Cr.pre (P := fun (y : PLift (okP σ x ∧ InvP σ ∧ okQ σ x q)) H => Cd E A σ L H ∧ 6 + x.toNatClampNeg < 6 + nn σ 11 ∧ q.toNatClampNeg < lc σ (6 + x.toNatClampNeg)) (fun y => by
    obtain ⟨hx, hK, hq⟩ := y
    have h := c_Lget l E A σ L (6 + x.toNatClampNeg) q.toNatClampNeg
    rw [← okX_nI hq.1, le_p] at h
    exact h) (fun H h => ⟨⟨h.2⟩, h.1, by have := okP_lt h.2.1; omega, by
      rw [lc_p]
      have hq := h.2.2.2
      have h1 := i_clamp hq.1
      have h2 := i_clamp (h.2.2.1 x h.2.1).1.1
      have h3 := hq.2
      show q.toNatClampNeg < (gA σ 94 x).toNatClampNeg
      omega⟩)
theorem okQ_nI {σ : St} {x : Int32} {k : Nat} (hb : bnd (gA σ 94 x) 200) (h : k < (gA σ 94 x).toNatClampNeg) : okQ σ x (nI k) := by
  have h2 := i_clamp hb.1
  have h3 := hb.2
  have h5 := nI_toInt (n := k) (by omega)
  exact ⟨by omega, by omega⟩
def c_hpC (σ : St) (x kind day valid k : Int32) : Bool := decide (gA σ 13 (gP σ x k) = kind) && (!decide (day < gA σ 14 (gP σ x k)) && decide (day - gA σ 14 (gP σ x k) < valid))
def c_hpL (σ : St) (x kind day valid : Int32) : Nat → Nat → Bool
  | 0, _ => false
  | f + 1, k => if c_hpC σ x kind day valid (nI k) then true else c_hpL σ x kind day valid f (k + 1)
def c_hasP (σ : St) (x kind day valid : Int32) : Bool := c_hpL σ x kind day valid (gA σ 94 x).toNatClampNeg 0
def c_wants (σ : St) (ld dy k : Int32) : Bool := !decide ((m_ask σ ld dy 4 >>> (k &&& 31)) &&& 1 = 0)
def c_laL (σ : St) (x ld dy : Int32) : Nat → Nat → Bool
  | 0, _ => false
  | f + 1, k => if c_wants σ ld dy (nI k) && !c_hasP σ x (nI k) dy (m_ask σ ld dy 5) then true else c_laL σ x ld dy f (k + 1)
def c_young (σ : St) (x ld dy : Int32) : Bool := decide (dy - gA σ 5 x < m_ask σ ld dy 2 * 365)
def c_bar (σ : St) (a b dy : Int32) : Int32 :=
  if !decide (gA σ 10 a = -1) || !decide (gA σ 10 b = -1) then 1
  else if c_young σ a (gA σ 4 a) dy || c_young σ b (gA σ 4 b) dy then 2
  else if !decide (k_kinOf σ a b = 0) && (!decide (m_ask σ (gA σ 4 a) dy 3 < k_kinOf σ a b) || !decide (m_ask σ (gA σ 4 b) dy 3 < k_kinOf σ a b)) then 3
  else if c_laL σ a (gA σ 4 a) dy 3 0 || c_laL σ b (gA σ 4 b) dy 3 0 then 4 else 0
