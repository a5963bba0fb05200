/-! THE PLAN OF A DAY -/
def plK (E : EV) (L : Nat → Nat → Nat) (tf hf : Nat → Int32) (H : Heap) : Prop := ia E (L 7 0) 10 tf H ∧ ia E (L 8 0) 60 hf H
def c_place (h r : Int32) : Int32 := if decide (h - 8 < 0) || (!decide (h - 8 < 10) || (decide (r < 0) || !decide (r < 6))) then -1 else (h - 8) * 6 + r
def c_taken (tf : Nat → Int32) (h w : Int32) : Bool := !decide (h - 8 < 0) && (decide (h - 8 < 10) && !decide ((tf (h - 8).toNatClampNeg >>> (w &&& 31)) &&& 1 = 0))
def c_hallAt (hf : Nat → Int32) (h r : Int32) : Int32 := if decide (c_place h r = -1) then -1 else hf (c_place h r).toNatClampNeg
def c_barTo (tf hf : Nat → Int32) (x : Int32) : Int32 :=
  if c_taken tf (x / 100) (rm (x / 10) 10) then 4 else if !decide (c_hallAt hf (x / 100) (rm x 10) = -1) then 5
  else if (!decide (c_hallAt hf (x / 100 - 1) (rm x 10) = -1) && !decide (c_hallAt hf (x / 100 - 1) (rm x 10) = rm (x / 10) 10)) || (!decide (c_hallAt hf (x / 100 + 1) (rm x 10) = -1) && !decide (c_hallAt hf (x / 100 + 1) (rm x 10) = rm (x / 10) 10)) then 6 else 0
def c_barS (σ : St) (tf hf : Nat → Int32) (n x : Int32) : Int32 := if !decide (c_barTo tf hf x = 0) then c_barTo tf hf x else if c_speaks σ (rm x 10) n then 0 else 7
def c_frR (σ : St) (tf hf : Nat → Int32) (n : Int32) (h w : Nat) : Nat → Nat → Option Int32
  | 0, _ => none
  | f + 1, r => if decide (c_barS σ tf hf n (nI h * 100 + nI w * 10 + nI r) = 0) then some (nI h * 100 + nI w * 10 + nI r) else c_frR σ tf hf n h w f (r + 1)
def c_frW (σ : St) (tf hf : Nat → Int32) (n : Int32) (h : Nat) : Nat → Nat → Option Int32
  | 0, _ => none
  | f + 1, w => match c_frR σ tf hf n h w (nn σ 28) 0 with
    | some x => some x
    | none => c_frW σ tf hf n h f (w + 1)
def c_frH (σ : St) (tf hf : Nat → Int32) (n : Int32) : Nat → Nat → Option Int32
  | 0, _ => none
  | f + 1, h => match c_frW σ tf hf n h 4 0 with
    | some x => some x
    | none => c_frH σ tf hf n f (h + 1)
def c_free (σ : St) (tf hf : Nat → Int32) (n : Int32) : Option Int32 := c_frH σ tf hf n 10 8
def oI (o : Option Int32) : Int32 := match o with
  | some x => x
  | none => -1
theorem in10 {r : Int32} (h1 : ¬ r < 0) (h2 : ¬ 10 ≤ r) : vp_in r 10 := by
  rw [i_lt] at h1
  rw [i_le] at h2
  have e0 : (0 : Int32).toInt = 0 := rfl
  have e1 : (10 : Int32).toInt = 10 := rfl
  exact vi_of (by omega) (by omega)
theorem place_eq {h r : Int32} (hn : ¬ c_place h r = -1) : 0 ≤ (h - 8).toInt ∧ (h - 8).toInt < 10 ∧ 0 ≤ r.toInt ∧ r.toInt < 6 ∧ (c_place h r).toInt = (h - 8).toInt * 6 + r.toInt := by
  unfold c_place at hn ⊢
  by_cases c : (decide (h - 8 < 0) || (!decide (h - 8 < 10) || (decide (r < 0) || !decide (r < 6)))) = true
  · rw [if_pos c] at hn; exact absurd rfl hn
  · rw [if_neg c]
    simp only [Bool.or_eq_true, Bool.not_eq_true', decide_eq_true_eq, decide_eq_false_iff_not, i_lt, not_or] at c
    have e0 : (0 : Int32).toInt = 0 := rfl
    have e1 : (10 : Int32).toInt = 10 := rfl
    have e2 : (6 : Int32).toInt = 6 := rfl
    obtain ⟨c1, c2, c3, c4⟩ := c
    refine ⟨by omega, by omega, by omega, by omega, ?_⟩
    have a1 := i_rng (h - 8)
    rw [Int32.toInt_add, Int32.toInt_mul, e2, Int.bmod_def, Int.bmod_def]
    omega
theorem place_in {h r : Int32} (hn : ¬ c_place h r = -1) : vp_in (c_place h r) 60 := by
  obtain ⟨h1, h2, h3, h4, h5⟩ := place_eq hn
  exact vi_of (by omega) (by omega)
