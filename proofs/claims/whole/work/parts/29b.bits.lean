/-! COUNTING BITS, byte by byte -/
def mp (g : Nat → Nat) : Nat → Nat → Nat
  | 0, _ => 0
  | k + 1, n => 256 * mp g k (n / 256) + g (n % 256)
def mk (m : Nat) : Nat → Nat
  | 0 => 0
  | k + 1 => 256 * mk m k + m
def s1 (c : Nat) : Nat := c - (c / 2 &&& 85)
def s2 (c : Nat) : Nat := (c &&& 51) + (c / 4 &&& 51)
def s3 (c : Nat) : Nat := (c + c / 16) % 16
def pop8 (c : Nat) : Nat := s3 (s2 (s1 c))
theorem and_256 (a b : Nat) : a &&& b = 256 * (a / 256 &&& b / 256) + (a % 256 &&& b % 256) := by
  have h1 : (a &&& b) / 2 ^ 8 = a / 2 ^ 8 &&& b / 2 ^ 8 := Nat.and_div_two_pow
  have h2 : (a &&& b) % 2 ^ 8 = (a % 2 ^ 8) &&& (b % 2 ^ 8) := Nat.and_mod_two_pow
  have h3 := Nat.div_add_mod (a &&& b) (2 ^ 8)
  rw [h1, h2] at h3
  exact h3.symm
theorem mk_and {m k a : Nat} (hm : m < 256) : a &&& mk m (k + 1) = 256 * (a / 256 &&& mk m k) + (a % 256 &&& m) := by
  rw [and_256, mk, show (256 * mk m k + m) / 256 = mk m k by omega, show (256 * mk m k + m) % 256 = m by omega]
theorem d1 : ∀ c, c < 256 → ∀ t, t < 2 → (128 * t + c / 2) &&& 85 = c / 2 &&& 85 := by decide +kernel
theorem d1b : ∀ c, c < 256 → (c / 2 &&& 85) ≤ c ∧ s1 c < 256 := by decide +kernel
theorem d2 : ∀ c, c < 256 → ∀ t, t < 4 → (64 * t + c / 4) &&& 51 = c / 4 &&& 51 := by decide +kernel
theorem d2b : ∀ c, c < 256 → s2 (s1 c) % 16 ≤ 4 ∧ s2 (s1 c) / 16 ≤ 4 ∧ s2 c < 256 := by decide +kernel
theorem d3 : ∀ c, c < 256 → pop8 c ≤ 8 := by decide +kernel
theorem mp_1 : ∀ (k n : Nat), n < 256 ^ k → (n / 2 &&& mk 85 k) ≤ n ∧ n - (n / 2 &&& mk 85 k) = mp s1 k n
  | 0, n, h => by
    have e : n = 0 := by simpa using h
    subst e; simp [mk, mp]
  | k + 1, n, h => by
    have hq : n / 256 < 256 ^ k := by rw [Nat.pow_succ] at h; exact Nat.div_lt_of_lt_mul (by rw [Nat.mul_comm]; exact h)
    obtain ⟨h1, h2⟩ := mp_1 k (n / 256) hq
    have hc : n % 256 < 256 := Nat.mod_lt _ (by decide)
    have e1 := d1 (n % 256) hc (n / 256 % 2) (Nat.mod_lt _ (by decide))
    have e2 := (d1b (n % 256) hc).1
    rw [mk_and (by decide), show n / 2 / 256 = n / 256 / 2 by omega, show n / 2 % 256 = 128 * (n / 256 % 2) + n % 256 / 2 by omega, e1, mp, ← h2]
    unfold s1
    generalize (n / 256 / 2 &&& mk 85 k) = u at *
    generalize (n % 256 / 2 &&& 85) = v at *
    omega
theorem mp_2 : ∀ (k n : Nat), n < 256 ^ k → (n &&& mk 51 k) + (n / 4 &&& mk 51 k) = mp s2 k n
  | 0, n, h => by
    have e : n = 0 := by simpa using h
    subst e; simp [mk, mp]
  | k + 1, n, h => by
    have hq : n / 256 < 256 ^ k := by rw [Nat.pow_succ] at h; exact Nat.div_lt_of_lt_mul (by rw [Nat.mul_comm]; exact h)
    have h2 := mp_2 k (n / 256) hq
    have hc : n % 256 < 256 := Nat.mod_lt _ (by decide)
    have e1 := d2 (n % 256) hc (n / 256 % 4) (Nat.mod_lt _ (by decide))
    rw [mk_and (by decide), mk_and (by decide), show n / 4 / 256 = n / 256 / 4 by omega, show n / 4 % 256 = 64 * (n / 256 % 4) + n % 256 / 4 by omega, e1, mp, ← h2]
    unfold s2
    generalize (n / 256 &&& mk 51 k) = u at *
    generalize (n / 256 / 4 &&& mk 51 k) = v at *
    generalize (n % 256 &&& 51) = u2 at *
    generalize (n % 256 / 4 &&& 51) = v2 at *
    omega
theorem mp_lt {g : Nat → Nat} (hg : ∀ c, c < 256 → g c < 256) : ∀ (k n : Nat), mp g k n < 256 ^ k
  | 0, _ => by simp [mp]
  | k + 1, n => by
    have h1 := mp_lt hg k (n / 256)
    have h2 := hg (n % 256) (Nat.mod_lt _ (by decide))
    rw [mp, Nat.pow_succ]
    omega
theorem mp_3 {g : Nat → Nat} (hg : ∀ c, c < 256 → g c < 256 ∧ g c % 16 ≤ 4 ∧ g c / 16 ≤ 4) : ∀ (k n : Nat), mp g k n % 16 ≤ 4 ∧ (mp g k n + mp g k n / 16 &&& mk 15 k) = mp (fun c => s3 (g c)) k n
  | 0, _ => by simp [mp, mk]
  | k + 1, n => by
    obtain ⟨h0, h1⟩ := mp_3 hg k (n / 256)
    obtain ⟨a1, a2, a3⟩ := hg (n % 256) (Nat.mod_lt _ (by decide))
    rw [mk_and (by decide), mp, mp, ← h1]
    generalize mp g k (n / 256) = u at *
    generalize g (n % 256) = c at *
    refine ⟨by omega, ?_⟩
    rw [show (256 * u + c + (256 * u + c) / 16) / 256 = u + u / 16 by omega, show (15 : Nat) = 2 ^ 4 - 1 by decide, Nat.and_two_pow_sub_one_eq_mod]
    unfold s3
    omega
theorem mp_c {g h : Nat → Nat} (hg : ∀ c, c < 256 → g c < 256) : ∀ (k n : Nat), mp h k (mp g k n) = mp (fun c => h (g c)) k n
  | 0, _ => rfl
  | k + 1, n => by
    have h2 := hg (n % 256) (Nat.mod_lt _ (by decide))
    rw [mp, mp, mp, show (256 * mp g k (n / 256) + g (n % 256)) / 256 = mp g k (n / 256) by omega, show (256 * mp g k (n / 256) + g (n % 256)) % 256 = g (n % 256) by omega, mp_c hg k]
def pop : Nat → Nat → Nat
  | 0, _ => 0
  | k + 1, n => pop8 (n % 256) + pop k (n / 256)
theorem fold8 {b0 b1 b2 b3 b4 b5 b6 b7 x y z w : Nat} (hb : b0 ≤ 8 ∧ b1 ≤ 8 ∧ b2 ≤ 8 ∧ b3 ≤ 8 ∧ b4 ≤ 8 ∧ b5 ≤ 8 ∧ b6 ≤ 8 ∧ b7 ≤ 8) (hx : x = 256 * (256 * (256 * (256 * (256 * (256 * (256 * (256 * 0 + b7) + b6) + b5) + b4) + b3) + b2) + b1) + b0) (hy : y = x + x / 256) (hz : z = y + y / 65536) (hw : w = z + z / 4294967296) : x < 2 ^ 64 ∧ y < 2 ^ 64 ∧ z < 2 ^ 64 ∧ w < 2 ^ 64 ∧ w % 128 = b0 + (b1 + (b2 + (b3 + (b4 + (b5 + (b6 + (b7 + 0))))))) := by
  have e1 : x / 256 = 256 * (256 * (256 * (256 * (256 * (256 * b7 + b6) + b5) + b4) + b3) + b2) + b1 := by omega
  have e2 : y = 256 * (256 * (256 * (256 * (256 * (256 * (256 * b7 + (b6 + b7)) + (b5 + b6)) + (b4 + b5)) + (b3 + b4)) + (b2 + b3)) + (b1 + b2)) + (b0 + b1) := by omega
  have e3 : y / 65536 = 256 * (256 * (256 * (256 * (256 * b7 + (b6 + b7)) + (b5 + b6)) + (b4 + b5)) + (b3 + b4)) + (b2 + b3) := by omega
  have e4 : z = 256 * (256 * (256 * (256 * (256 * (256 * (256 * b7 + (b6 + b7)) + (b5 + b6 + b7)) + (b4 + b5 + b6 + b7)) + (b3 + b4 + b5 + b6)) + (b2 + b3 + b4 + b5)) + (b1 + b2 + b3 + b4)) + (b0 + b1 + b2 + b3) := by omega
  have e5 : z / 4294967296 = 256 * (256 * (256 * b7 + (b6 + b7)) + (b5 + b6 + b7)) + (b4 + b5 + b6 + b7) := by omega
  obtain ⟨a0, a1, a2, a3, a4, a5, a6, a7⟩ := hb
  have e6 : w = 128 * (2 * (256 * (256 * (256 * (256 * (256 * (256 * b7 + (b6 + b7)) + (b5 + b6 + b7)) + (b4 + b5 + b6 + b7)) + (b3 + b4 + b5 + b6 + b7)) + (b2 + b3 + b4 + b5 + b6 + b7)) + (b1 + b2 + b3 + b4 + b5 + b6 + b7))) + (b0 + (b1 + (b2 + (b3 + (b4 + (b5 + (b6 + (b7 + 0)))))))) := by
    rw [hw, e5, e4]
    clear e1 e2 e3 e4 e5 hx hy hz hw
    omega
  clear hw e1 e3 e5 hy hz
  refine ⟨?_, ?_, ?_, ?_, ?_⟩
  · clear e2 e4 e6; omega
  · clear hx e4 e6; omega
  · clear hx e2 e6; omega
  · clear hx e2 e4; omega
  · rw [e6, Nat.mul_add_mod]
    clear e6 e2 e4 hx
    exact Nat.mod_eq_of_lt (by omega)

theorem mp_top {g : Nat → Nat} (hg : ∀ c, c < 256 → g c < 256 ∧ g c % 16 ≤ 4 ∧ g c / 16 ≤ 4) : ∀ (k n : Nat), mp g (k + 1) n < 256 ^ k * 69
  | 0, n => by
    obtain ⟨a1, a2, a3⟩ := hg (n % 256) (Nat.mod_lt _ (by decide))
    simp only [mp, Nat.pow_zero]
    omega
  | k + 1, n => by
    obtain ⟨a1, a2, a3⟩ := hg (n % 256) (Nat.mod_lt _ (by decide))
    have h1 := mp_top hg k (n / 256)
    rw [mp, Nat.pow_succ]
    omega
theorem bc_1 {n : Nat} {x : Int64} (hn : n < 2 ^ 64) (h : x = lN n - ((((lN n).toUInt64 >>> ((1 : Int32).toInt64.toUInt64 &&& Int64.toUInt64 63)).toInt64) &&& 6148914691236517205)) : x = lN (mp s1 8 n) := by
  have e := wb_shr (n := n) (k := 1) hn (by decide)
  have h2 := mp_1 8 n hn
  rw [h, show (1 : Int32) = nI 1 from rfl, e, show (6148914691236517205 : Int64) = lN (mk 85 8) from by decide +kernel, wb_and (Nat.lt_of_le_of_lt (Nat.div_le_self _ _) hn) (by decide), lN_sub h2.1, h2.2]
theorem bc_2 {n : Nat} {x : Int64} (hn : n < 2 ^ 64) (h : x = (lN n &&& 3689348814741910323) + ((((lN n).toUInt64 >>> ((2 : Int32).toInt64.toUInt64 &&& Int64.toUInt64 63)).toInt64) &&& 3689348814741910323)) : x = lN (mp s2 8 n) := by
  have e := wb_shr (n := n) (k := 2) hn (by decide)
  have h2 := mp_2 8 n hn
  rw [h, show (2 : Int32) = nI 2 from rfl, e, show (3689348814741910323 : Int64) = lN (mk 51 8) from by decide +kernel, wb_and (Nat.lt_of_le_of_lt (Nat.div_le_self _ _) hn) (by decide), wb_and hn (by decide), lN_add, ← h2]
theorem bc_3 {n : Nat} {x : Int64} (h : x = (lN (mp (fun c => s2 (s1 c)) 8 n) + (((lN (mp (fun c => s2 (s1 c)) 8 n)).toUInt64 >>> ((4 : Int32).toInt64.toUInt64 &&& Int64.toUInt64 63)).toInt64)) &&& 1085102592571150095) : x = lN (mp pop8 8 n) := by
  have hg : ∀ c, c < 256 → s2 (s1 c) < 256 ∧ s2 (s1 c) % 16 ≤ 4 ∧ s2 (s1 c) / 16 ≤ 4 := fun c hc => by
    have := d2b c hc
    omega
  have hl := mp_lt (fun c hc => (hg c hc).1) 8 n
  have h2 := (mp_3 hg 8 n).2
  generalize hu : mp (fun c => s2 (s1 c)) 8 n = u at *
  have e := wb_shr (n := u) (k := 4) hl (by decide)
  have hs : u + u / 2 ^ 4 < 2 ^ 64 := by
    have := (mp_3 hg 8 n).1
    have h7 : u < 256 ^ 7 * 80 := by
      rw [← hu]
      exact Nat.lt_trans (mp_top hg 7 n) (by decide)
    omega
  rw [h, show (4 : Int32) = nI 4 from rfl, e, lN_add, show (1085102592571150095 : Int64) = lN (mk 15 8) from by decide +kernel, wb_and hs (by decide), h2]
  rfl
theorem bc_f {n : Nat} {x4 x5 x6 : Int64} (h4 : x4 = lN (mp pop8 8 n) + (((lN (mp pop8 8 n)).toUInt64 >>> ((8 : Int32).toInt64.toUInt64 &&& Int64.toUInt64 63)).toInt64)) (h5 : x5 = x4 + ((x4.toUInt64 >>> ((16 : Int32).toInt64.toUInt64 &&& Int64.toUInt64 63)).toInt64)) (h6 : x6 = x5 + ((x5.toUInt64 >>> ((32 : Int32).toInt64.toUInt64 &&& Int64.toUInt64 63)).toInt64)) : x6.toInt32 &&& 127 = nI (pop 8 n) := by
  have hd : ∀ m, pop8 (m % 256) ≤ 8 := fun m => d3 _ (Nat.mod_lt _ (by decide))
  obtain ⟨q1, q2, q3, q4, q5⟩ := fold8 (x := mp pop8 8 n) ⟨hd n, hd (n / 256), hd (n / 256 / 256), hd (n / 256 / 256 / 256), hd (n / 256 / 256 / 256 / 256), hd (n / 256 / 256 / 256 / 256 / 256), hd (n / 256 / 256 / 256 / 256 / 256 / 256), hd (n / 256 / 256 / 256 / 256 / 256 / 256 / 256)⟩ rfl rfl rfl rfl
  rw [show (8 : Int32) = nI 8 from rfl, wb_shr q1 (by decide), lN_add] at h4
  rw [h4, show (16 : Int32) = nI 16 from rfl, wb_shr (k := 16) q2 (by decide), lN_add] at h5
  rw [h5, show (32 : Int32) = nI 32 from rfl, wb_shr (k := 32) q3 (by decide), lN_add] at h6
  rw [h6, lN_i, show (127 : Int32) = nI (2 ^ 7 - 1) from rfl, nx_and, Nat.and_two_pow_sub_one_eq_mod]
  exact congrArg nI q5
theorem bc_all {n : Nat} {x1 x2 x3 x4 x5 x6 : Int64} (hn : n < 2 ^ 64) (h1 : x1 = lN n - ((((lN n).toUInt64 >>> ((1 : Int32).toInt64.toUInt64 &&& Int64.toUInt64 63)).toInt64) &&& 6148914691236517205)) (h2 : x2 = (x1 &&& 3689348814741910323) + (((x1.toUInt64 >>> ((2 : Int32).toInt64.toUInt64 &&& Int64.toUInt64 63)).toInt64) &&& 3689348814741910323)) (h3 : x3 = (x2 + ((x2.toUInt64 >>> ((4 : Int32).toInt64.toUInt64 &&& Int64.toUInt64 63)).toInt64)) &&& 1085102592571150095) (h4 : x4 = x3 + ((x3.toUInt64 >>> ((8 : Int32).toInt64.toUInt64 &&& Int64.toUInt64 63)).toInt64)) (h5 : x5 = x4 + ((x4.toUInt64 >>> ((16 : Int32).toInt64.toUInt64 &&& Int64.toUInt64 63)).toInt64)) (h6 : x6 = x5 + ((x5.toUInt64 >>> ((32 : Int32).toInt64.toUInt64 &&& Int64.toUInt64 63)).toInt64)) : x6.toInt32 &&& 127 = nI (pop 8 n) := by
  have e1 := bc_1 hn h1
  subst e1
  have e2 := bc_2 (mp_lt (fun c hc => (d1b c hc).2) 8 n) h2
  rw [mp_c (fun c hc => (d1b c hc).2)] at e2
  subst e2
  have e3 := bc_3 h3
  subst e3
  exact bc_f h4 h5 h6
/-! the bits of a word of days -/
def cntN (f : Nat → Bool) : Nat → Nat
  | 0 => 0
  | n + 1 => cntN f n + (if f n then 1 else 0)
theorem bits_lt (f : Nat → Bool) : ∀ n, bitsN f n < 2 ^ n
  | 0 => by simp [bitsN]
  | n + 1 => by
    have := bits_lt f n
    rw [bitsN, Nat.pow_succ]
    split <;> omega
theorem bits_add (f : Nat → Bool) (a : Nat) : ∀ n, bitsN f (a + n) = bitsN f a + 2 ^ a * bitsN (fun b => f (a + b)) n
  | 0 => by simp [bitsN]
  | n + 1 => by
    rw [show a + (n + 1) = a + n + 1 by omega, bitsN, bits_add f a n, bitsN, Nat.mul_add, Nat.pow_add]
    split <;> simp [Nat.add_assoc]
theorem cnt_add (f : Nat → Bool) (a : Nat) : ∀ n, cntN f (a + n) = cntN f a + cntN (fun b => f (a + b)) n
  | 0 => by simp [cntN]
  | n + 1 => by
    rw [show a + (n + 1) = a + n + 1 by omega, cntN, cnt_add f a n, cntN]
    omega
theorem pop8_bits (f : Nat → Bool) : pop8 (bitsN f 8) = cntN f 8 := by
  simp only [bitsN, cntN]
  generalize f 0 = b0; generalize f 1 = b1; generalize f 2 = b2; generalize f 3 = b3; generalize f 4 = b4; generalize f 5 = b5; generalize f 6 = b6; generalize f 7 = b7
  revert b0 b1 b2 b3 b4 b5 b6 b7
  decide +kernel
theorem pop_bits : ∀ (k : Nat) (f : Nat → Bool), pop k (bitsN f (8 * k)) = cntN f (8 * k)
  | 0, _ => rfl
  | k + 1, f => by
    have h1 := bits_lt f 8
    rw [show 8 * (k + 1) = 8 + 8 * k by omega, bits_add, cnt_add, pop, show (bitsN f 8 + 2 ^ 8 * bitsN (fun b => f (8 + b)) (8 * k)) % 256 = bitsN f 8 by omega, show (bitsN f 8 + 2 ^ 8 * bitsN (fun b => f (8 + b)) (8 * k)) / 256 = bitsN (fun b => f (8 + b)) (8 * k) by omega, pop8_bits, pop_bits k]
theorem bits_congr {f g : Nat → Bool} : ∀ n, (∀ b, b < n → f b = g b) → bitsN f n = bitsN g n
  | 0, _ => rfl
  | n + 1, h => by rw [bitsN, bitsN, bits_congr n (fun b hb => h b (by omega)), h n (by omega)]
theorem cnt_congr {f g : Nat → Bool} : ∀ n, (∀ b, b < n → f b = g b) → cntN f n = cntN g n
  | 0, _ => rfl
  | n + 1, h => by rw [cntN, cntN, cnt_congr n (fun b hb => h b (by omega)), h n (by omega)]
theorem bits_mod (f : Nat → Bool) {k n : Nat} (h : k ≤ n) : bitsN f n % 2 ^ k = bitsN f k := by
  obtain ⟨m, rfl⟩ : ∃ m, n = k + m := ⟨n - k, by omega⟩
  rw [bits_add, Nat.add_mul_mod_self_left, Nat.mod_eq_of_lt (bits_lt f k)]
theorem bits_cut (f : Nat → Bool) : ∀ {k n : Nat}, k ≤ n → bitsN (fun b => decide (b < k) && f b) n = bitsN f k
  | k, n, h => by
    obtain ⟨m, rfl⟩ : ∃ m, n = k + m := ⟨n - k, by omega⟩
    clear h
    induction m with
    | zero => exact bits_congr k (fun b hb => by simp [hb])
    | succ m ih => rw [show k + (m + 1) = k + m + 1 by omega, bitsN, ih]; simp [show ¬ k + m < k by omega]
theorem cnt_cut (f : Nat → Bool) : ∀ {k n : Nat}, k ≤ n → cntN (fun b => decide (b < k) && f b) n = cntN f k
  | k, n, h => by
    obtain ⟨m, rfl⟩ : ∃ m, n = k + m := ⟨n - k, by omega⟩
    clear h
    induction m with
    | zero => exact cnt_congr k (fun b hb => by simp [hb])
    | succ m ih => rw [show k + (m + 1) = k + m + 1 by omega, cntN, ih]; simp [show ¬ k + m < k by omega]
/-- the count of the bits below k of a word -/
theorem pop_low (f : Nat → Bool) {k : Nat} (h : k ≤ 64) : pop 8 (bitsN f 64 % 2 ^ k) = cntN f k := by
  rw [bits_mod f h, ← bits_cut f h, ← cnt_cut f h]
  exact pop_bits 8 _
theorem pop_word (f : Nat → Bool) : pop 8 (bitsN f 64) = cntN f 64 := pop_bits 8 f
theorem bits_div (f : Nat → Bool) {k n : Nat} (h : k < n) : bitsN f n / 2 ^ k % 2 = if f k then 1 else 0 := by
  obtain ⟨m, rfl⟩ : ∃ m, n = k + (1 + m) := ⟨n - k - 1, by omega⟩
  rw [bits_add, Nat.add_mul_div_left _ _ (Nat.two_pow_pos k), Nat.div_eq_of_lt (bits_lt f k), Nat.zero_add, bits_add]
  simp only [bitsN, Nat.add_zero]
  split <;> omega
