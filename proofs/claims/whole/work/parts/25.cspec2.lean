/-! MORE OF THE CLASS'S METHODS as functions of the numbers -/
def InvJ (σ : St) : Prop := (∀ i, i < nn σ 30 → okN σ (σ (200 + i) 7) ∧ σ (200 + i) 5 = gA σ 17 (σ (200 + i) 7) ∧ σ (200 + i) 6 = gA σ 18 (σ (200 + i) 7)) ∧ ∀ i, i < nn σ 26 → okN σ (σ 24 i)
theorem en_ok {σ : St} {e : Int32} (hJ : InvJ σ) (h : okE σ e) : okN σ (gR σ 200 e 7) := (hJ.1 _ (okE_lt h)).1
theorem ob_ok {σ : St} {o : Int32} (hJ : InvJ σ) (h : okO σ o) : okN σ (gA σ 24 o) := hJ.2 _ (ok_lt (t := 26) h)
theorem in6 {r : Int32} (h1 : ¬ r < 0) (h2 : r < nI 6) : vp_in r 6 := by
  rw [i_lt] at h1 h2
  have e0 : (0 : Int32).toInt = 0 := rfl
  have e1 : (nI 6).toInt = 6 := rfl
  exact vi_of (by omega) (by omega)
theorem okC_of {σ : St} {x : Int32} {m : Nat} (hI : InvM σ) (hx : x.toInt = ((m + 1 : Nat) : Int) - 1) (hm : m + 1 ≤ nn σ 35) : okC σ x := by
  have h2 := i_clamp hI.1.2.2.2.2.2.2.2.2.1
  have h3 : m + 1 ≤ (σ 35 0).toNatClampNeg := hm
  exact ⟨by omega, by omega⟩
theorem en_last {σ : St} (hI : InvM σ) : (σ 35 0 - 1).toInt = ((nn σ 35 : Nat) : Int) - 1 := by
  rw [cnt_pred hI.1.2.2.2.2.2.2.2.2]
  have h2 := i_clamp hI.1.2.2.2.2.2.2.2.2.1
  show _ = (((σ 35 0).toNatClampNeg : Nat) : Int) - 1
  omega
theorem dec_x {x : Int32} {m : Nat} (hx : x.toInt = ((m + 1 : Nat) : Int) - 1) : (x + -1).toInt = (m : Int) - 1 := by
  have h1 := i_rng x
  have e1 : (-1 : Int32).toInt = -1 := rfl
  rw [Int32.toInt_add, e1, hx, Int.bmod_def]
  omega
theorem x_nI {x : Int32} {m : Nat} (hx : x.toInt = ((m + 1 : Nat) : Int) - 1) : x = nI m := by
  have h1 := i_rng x
  rw [i_eq, nI_toInt (by omega)]
  omega
def c_isSlot (σ : St) (x : Int32) : Bool := !decide (x < 0) && (!decide (x / 100 < 8) && (decide (x / 100 < 18) && (decide (rm (x / 10) 10 < 4) && decide (rm x 10 < σ 28 0))))
def c_speaks (σ : St) (r n : Int32) : Bool := !decide (r < 0) && (decide (r < nI 6) && (!decide (gA σ 27 r &&& gA σ 8 (gA σ 17 n) = 0) && !decide (gA σ 27 r &&& gA σ 8 (gA σ 18 n) = 0)))
def c_nlaw (σ : St) (e lw : Int32) : Int32 := m_ask σ (if decide (lw = 0) then gA σ 4 (gA σ 17 (gR σ 200 e 7)) else gA σ 4 (gA σ 18 (gR σ 200 e 7))) (gR σ 200 e 0) 7
def k_nameOf (σ : St) (e wh lw : Int32) : Int32 := if decide (c_nlaw σ e lw = 2) then gR σ 200 e 1 * 10000 + gR σ 200 e 2 else if decide (c_nlaw σ e lw = 1) || decide (wh = 0) then gR σ 200 e 1 else gR σ 200 e 2
def c_wr (σ : St) (e f : Int32) : Int32 := if decide (f = 0) then gR σ 200 e 0 else if decide (f = 1) then gR σ 200 e 1 else if decide (f = 2) then gR σ 200 e 2 else if decide (f = 3) then gR σ 200 e 3 else if decide (f = 4) then gR σ 200 e 4 else if decide (f = 5) then nI (gA σ 17 (gR σ 200 e 7)).toNatClampNeg else if decide (f = 6) then nI (gA σ 18 (gR σ 200 e 7)).toNatClampNeg else if decide (f = 7) then nI (gR σ 200 e 7).toNatClampNeg else -1
def k_told (σ : St) (n what : Int32) : Int32 := if !m_isN σ n then -1 else if decide (what = 0) then gA σ 20 n else if decide (what = 1) then gA σ 19 n else if decide (what = 2) then gA σ 93 n else if decide (what = 3) then gA σ 21 n else if decide (what = 4) then gA σ 22 n else -1
def k_married (σ : St) (p : Int32) : Int32 := if m_isP σ p then (if decide (gA σ 10 p = -1) then -1 else nI (gA σ 10 p).toNatClampNeg) else -1
def k_kin (σ : St) (a b : Int32) : Int32 := if m_isP σ a && (m_isP σ b && !decide (a = b)) then k_kinOf σ a b else -1
def k_against (σ : St) (a b day : Int32) : Int32 := if m_isP σ a && (m_isP σ b && (!decide (a = b) && m_in day 0 20000)) then c_bar σ a b day else -1
def k_name (σ : St) (e wh lw : Int32) : Int32 := if m_in e 0 (σ 30 0 - 1) && (!decide (wh < 0) && (!decide (1 < wh) && (!decide (lw < 0) && !decide (1 < lw)))) then k_nameOf σ e wh lw else -1
def k_quarrel (σ : St) (e : Int32) : Bool := m_in e 0 (σ 30 0 - 1) && (!decide (k_nameOf σ e 0 0 = k_nameOf σ e 0 1) || !decide (k_nameOf σ e 1 0 = k_nameOf σ e 1 1))
def c_enD (σ : St) (e f day : Int32) : Nat → Int32
  | 0 => c_wr σ e f
  | n + 1 => if m_enC σ e f day (nI n) then gA σ 33 (nI n) else c_enD σ e f day n
def c_enBad (σ : St) (e f day : Int32) : Bool := !m_in e 0 (σ 30 0 - 1) || (decide (f < 0) || (!decide (f < 8) || (decide (day < gR σ 200 e 0) || decide (σ 0 0 < day))))
def k_entry (σ : St) (e f day : Int32) : Int32 := if c_enBad σ e f day then -1 else c_enD σ e f day (nn σ 35)
