/-! THE CALENDAR -/
/-- how many told feasts lie ahead of day n -/
def tcnt (σ : St) (n : Nat) : Nat := cntN (fun d => !decide (σ 16 d = 0)) n
def ah (σ : St) (n : Nat) : Nat := n / 7 + tcnt σ n
theorem tcnt_w (σ : St) (w k : Nat) : tcnt σ (64 * w + k) = tcnt σ (64 * w) + cntN (fb σ w) k := cnt_add _ _ k
theorem cnt_len (f : Nat → Bool) : ∀ n, cntN f n ≤ n
  | 0 => Nat.le_refl _
  | n + 1 => by
    have := cnt_len f n
    rw [cntN]
    split <;> omega
theorem okD_n' {x : Int32} (h : okD x) : x.toNatClampNeg ≤ 20000 ∧ x = nI x.toNatClampNeg := by
  have h1 := i_clamp h.1
  have h2 := h.2
  exact ⟨by omega, okX_nI h.1⟩
theorem sar32 {x D : Int32} {d : Nat} (hD : (D.toBitVec.smod 32).toNat = d) : (x >>> D).toInt = x.toInt >>> d := by
  rw [← hD]
  exact BitVec.toInt_sshiftRight ..
theorem sh6 {x : Int32} (h : okD x) : x >>> ((6 : Int32) &&& 31) = nI (x.toNatClampNeg / 64) := by
  have h1 := okD_n' h
  have h2 := i_clamp h.1
  rw [i_eq, sar32 (d := 6) (by decide), nI_toInt (by omega), Int.shiftRight_eq_div_pow]
  omega
theorem an63 {x : Int32} (h : okD x) : x &&& 63 = nI (x.toNatClampNeg % 64) := by
  have h1 := (okD_n' h).2
  generalize hn : x.toNatClampNeg = n at *
  rw [h1, show (63 : Int32) = nI (2 ^ 6 - 1) from rfl, nx_and, Nat.and_two_pow_sub_one_eq_mod]
theorem dv7 {x : Int32} {σ : St} (h : okD x) : x / 7 = nI (x.toNatClampNeg / 7 + tcnt σ (64 * 0)) := by
  have h1 := okD_n' h
  have h2 := i_clamp h.1
  have e7 : (7 : Int32).toInt = 7 := rfl
  show _ = nI (x.toNatClampNeg / 7 + 0)
  rw [i_eq, nI_toInt (by omega), Int32.toInt_div, e7, Int.bmod_def, Int.tdiv_eq_ediv_of_nonneg h.1]
  omega
theorem w_in {n : Nat} (h : n ≤ 20000) : vp_in (nI (n / 64)) 313 := vi_of (by rw [nI_toInt (by omega)]; omega) (by rw [nI_toInt (by omega)]; omega)
theorem k_in {k : Nat} (h : k < 313) : vp_in (nI k) 313 := vi_of (by rw [nI_toInt (by omega)]; omega) (by rw [nI_toInt (by omega)]; omega)
theorem sar_cmp {w D : Int64} {j : Nat} (hD : (D.toBitVec.smod 64).toNat = j) (hj : j < 64) : lg_cmp ((w >>> D) &&& 1) 0 = bI (w.toBitVec.getLsbD j) := by
  obtain ⟨m, hm, e⟩ := wb_of (w >>> D)
  have e3 : (w >>> D).toBitVec.getLsbD 0 = w.toBitVec.getLsbD j := by
    rw [Int64.toBitVec_shiftRight]
    show (w.toBitVec.sshiftRight (D.toBitVec.smod 64).toNat).getLsbD 0 = _
    rw [hD, BitVec.getLsbD_sshiftRight]
    simp [hj]
  have e4 : (lN m).toBitVec.getLsbD 0 = decide (m % 2 = 1) := by
    rw [wb_tb, BitVec.getLsbD_ofNat]
    simp [Nat.testBit_zero]
  rw [← e3, e, wb_a1 hm, e4]
  rcases Nat.mod_two_eq_zero_or_one m with h | h <;> rw [h] <;> decide
theorem pk_bit {σ : St} {w j : Nat} (hj : j < 64) : (pk σ w).toBitVec.getLsbD j = fb σ w j := by
  unfold pk
  rw [wb_tb, BitVec.getLsbD_ofNat, Nat.testBit_eq_decide_div_mod_eq, bits_div _ hj]
  cases fb σ w j <;> simp [hj]
theorem bitq {x : Int32} {σ : St} (h : okD x) : lg_cmp ((pk σ (nI (x.toNatClampNeg / 64)).toNatClampNeg >>> ((x &&& 63).toInt64 &&& 63)) &&& 1) 0 = bI (!decide (gA σ 16 x = 0)) := by
  have h1 := okD_n' h
  rw [an63 h, wb_c _ (Nat.mod_lt _ (by decide)), sar_cmp (j := x.toNatClampNeg % 64) (by rw [wb_tb, wb_sm _ (Nat.mod_lt _ (by decide)), BitVec.toNat_ofNat]; omega) (Nat.mod_lt _ (by decide)), pk_bit (Nat.mod_lt _ (by decide)), nI_clamp (by omega)]
  unfold fb gA
  rw [Nat.div_add_mod]
theorem wstep {σ : St} {n k : Nat} (hk : k < 313) : nI (n / 7 + tcnt σ (64 * k)) + nI (pop 8 (bitsN (fb σ (nI k).toNatClampNeg) 64)) = nI (n / 7 + tcnt σ (64 * (k + 1))) := by
  rw [nI_clamp (by omega), pop_word, show 64 * (k + 1) = 64 * k + 64 by omega, tcnt_w, nI_add, Nat.add_assoc]
theorem mask_eq {x : Int32} {σ : St} (h : okD x) : pk σ (nI (x.toNatClampNeg / 64)).toNatClampNeg &&& ((1 <<< ((x &&& 63).toInt64 &&& 63)) - 1) = lN (bitsN (fb σ (x.toNatClampNeg / 64)) 64 % 2 ^ (x.toNatClampNeg % 64)) := by
  have h1 := okD_n' h
  have hp := Nat.two_pow_pos (x.toNatClampNeg % 64)
  rw [an63 h, show (1 : Int64) = lN 1 from rfl, wb_shl 1 (Nat.mod_lt _ (by decide)), Nat.one_mul, lN_sub (by omega), nI_clamp (by omega)]
  unfold pk
  exact wb_mask (bits_lt _ 64) (Nat.mod_lt _ (by decide))
theorem wlast {σ : St} {n : Nat} : nI (n / 7 + tcnt σ (64 * (n / 64))) + nI (pop 8 (bitsN (fb σ (n / 64)) 64 % 2 ^ (n % 64))) = nI (ah σ n) := by
  rw [pop_low _ (by omega), nI_add, Nat.add_assoc, ← tcnt_w, Nat.div_add_mod]
  rfl
theorem pop_lt {σ : St} {w k : Nat} : bitsN (fb σ w) 64 % 2 ^ k < 2 ^ 64 := Nat.lt_of_le_of_lt (Nat.mod_le _ _) (bits_lt _ 64)
def c_wdb (σ : St) (a b : Int32) : Int32 := if decide (a + 1 < b) then b - a - 1 - (nI (ah σ b.toNatClampNeg) - nI (ah σ (a + 1).toNatClampNeg)) else 0
def c_ripeOn (σ : St) (n d : Int32) : Bool := decide (gA σ 93 n = 0) && (!decide (d < gA σ 19 n) && !decide (c_wdb σ (gA σ 19 n) d < m_wanted σ n d))
def c_barD (σ : St) (n d : Int32) : Int32 := if !decide (gA σ 20 n = 0) then 1 else if !m_isFree σ d then 2 else if c_ripeOn σ n d then 0 else 3
theorem okD_1 {a b : Int32} (ha : okD a) (hb : okD b) (h : a + 1 < b) : okD (a + 1) := by
  have e1 : (1 : Int32).toInt = 1 := rfl
  have h1 := ha.1
  have h2 := ha.2
  have h3 := hb.2
  rw [i_lt] at h
  have e : (a + 1).toInt = a.toInt + 1 := by
    rw [Int32.toInt_add, e1, Int.bmod_def]
    omega
  exact ⟨by omega, by omega⟩
theorem nI_nn {n : Nat} (h : n < 2 ^ 31) : ¬ nI n < 0 := by
  rw [i_lt, nI_toInt h]
  have e0 : (0 : Int32).toInt = 0 := rfl
  omega
theorem nI_lt_ {n m : Nat} (h : n < m) (h2 : m < 2 ^ 31) : nI n < nI m := by
  rw [i_lt, nI_toInt (by omega), nI_toInt h2]
  omega
def k_hung (σ : St) (n day : Int32) : Int32 := if m_isN σ n && m_in day 0 20000 then c_wdb σ (gA σ 19 n) day else -1
theorem not_t {b : Bool} (h : (!b) = true) : b = false := by cases b <;> first | rfl | exact absurd h (by decide)
theorem not_f {b : Bool} (h : (!b) = false) : b = true := by cases b <;> first | rfl | exact absurd h (by decide)
