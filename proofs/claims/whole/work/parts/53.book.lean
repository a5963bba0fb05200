/-! THE PLAN OF A DAY AND THE REFERENCE'S SEARCH -/
theorem i03 {w : Int32} (h : 0 ≤ w.toInt ∧ w.toInt ≤ 3) : w = 0 ∨ w = 1 ∨ w = 2 ∨ w = 3 := by
  have e0 : (0 : Int32).toInt = 0 := rfl
  have e1 : (1 : Int32).toInt = 1 := rfl
  have e2 : (2 : Int32).toInt = 2 := rfl
  have e3 : (3 : Int32).toInt = 3 := rfl
  rw [i_eq, i_eq, i_eq, i_eq]
  omega
theorem bit1 {x : Int32} : decide (x &&& 1 = 0) = !x.toBitVec.getLsbD 0 := by
  have h : (x &&& 1).toBitVec = x.toBitVec &&& 1#32 := rfl
  have h3 : (x.toBitVec &&& 1#32).toNat = x.toBitVec.toNat % 2 := by
    rw [BitVec.toNat_and]
    exact Nat.and_one_is_mod _
  have h4 : x.toBitVec.getLsbD 0 = decide (x.toBitVec.toNat % 2 = 1) := by
    rw [BitVec.getLsbD, Nat.testBit_zero]
  rw [h4]
  rcases Nat.mod_two_eq_zero_or_one x.toBitVec.toNat with e | e
  · have e2 : x &&& 1 = 0 := Int32.toBitVec_inj.mp (BitVec.eq_of_toNat_eq (by rw [h, h3, e]; rfl))
    rw [e2, e]; rfl
  · have e2 : x &&& 1 = 1 := Int32.toBitVec_inj.mp (BitVec.eq_of_toNat_eq (by rw [h, h3, e]; rfl))
    rw [e2, e]; rfl
theorem bitw {x w : Int32} {k : Nat} (hk : k < 4) (hw : w = nI k) : decide ((x >>> (w &&& 31)) &&& 1 = 0) = !x.toBitVec.getLsbD k := by
  rw [bit1]
  congr 1
  have hs : ((w &&& 31).toBitVec.smod 32).toNat = k := by
    subst hw
    have : k = 0 ∨ k = 1 ∨ k = 2 ∨ k = 3 := by omega
    rcases this with rfl | rfl | rfl | rfl <;> decide
  rw [Int32.toBitVec_shiftRight]
  show (x.toBitVec.sshiftRight ((w &&& 31).toBitVec.smod 32).toNat).getLsbD 0 = _
  rw [hs, BitVec.getLsbD_sshiftRight]
  have : ¬ 32 ≤ 0 := by decide
  simp
  omega
theorem bitor {t w w' : Int32} (h : 0 ≤ w.toInt ∧ w.toInt ≤ 3) (h' : 0 ≤ w'.toInt ∧ w'.toInt ≤ 3) : (!decide (((t ||| (1 <<< (w &&& 31))) >>> (w' &&& 31)) &&& 1 = 0)) = ((!decide ((t >>> (w' &&& 31)) &&& 1 = 0)) || decide (w = w')) := by
  obtain ⟨k', hk', e'⟩ : ∃ k', k' < 4 ∧ w' = nI k' := by
    rcases i03 h' with e | e | e | e
    · exact ⟨0, by decide, e⟩
    · exact ⟨1, by decide, e⟩
    · exact ⟨2, by decide, e⟩
    · exact ⟨3, by decide, e⟩
  rw [bitw hk' e', bitw hk' e', Bool.not_not, Bool.not_not, Int32.toBitVec_or, BitVec.getLsbD_or]
  congr 1
  subst e'
  have : k' = 0 ∨ k' = 1 ∨ k' = 2 ∨ k' = 3 := by omega
  rcases i03 h with e | e | e | e <;> subst e <;> rcases this with rfl | rfl | rfl | rfl <;> decide
def bt (t w : Int32) : Bool := !decide ((t >>> (w &&& 31)) &&& 1 = 0)
theorem bt_or {t w w' : Int32} (h : 0 ≤ w.toInt ∧ w.toInt ≤ 3) (h' : 0 ≤ w'.toInt ∧ w'.toInt ≤ 3) : bt (t ||| (1 <<< (w &&& 31))) w' = (bt t w' || decide (w = w')) := bitor h h'
theorem taken_bt {tf : Nat → Int32} {h w : Int32} : c_taken tf h w = (!decide (h - 8 < 0) && (decide (h - 8 < 10) && bt (tf (h - 8).toNatClampNeg) w)) := rfl
/-- the plan shows just the slots of S -/
def PO (S : Int32 → Prop) (pl : Pl) : Prop :=
  (∀ h w : Int32, 8 ≤ h.toInt → h.toInt ≤ 17 → 0 ≤ w.toInt → w.toInt ≤ 3 → (c_taken pl.1 h w = true ↔ ∃ x, S x ∧ x / 100 = h ∧ rm (x / 10) 10 = w)) ∧
  ∀ h r : Int32, 8 ≤ h.toInt → h.toInt ≤ 17 → 0 ≤ r.toInt → r.toInt < 6 → (c_hallAt pl.2 h r = -1 ∧ ¬ ∃ x, S x ∧ x / 100 = h ∧ rm x 10 = r) ∨ ∃ x, S x ∧ x / 100 = h ∧ rm x 10 = r ∧ c_hallAt pl.2 h r = rm (x / 10) 10
theorem h8 {h : Int32} (h1 : 8 ≤ h.toInt) (h2 : h.toInt ≤ 17) : (h - 8).toInt = h.toInt - 8 := by
  have e : (8 : Int32).toInt = 8 := rfl
  rw [i_sub (by omega) (by omega), e]
theorem place_v {h r : Int32} (h1 : 8 ≤ h.toInt) (h2 : h.toInt ≤ 17) (h3 : 0 ≤ r.toInt) (h4 : r.toInt < 6) : (c_place h r).toInt = (h.toInt - 8) * 6 + r.toInt ∧ ¬ c_place h r = -1 := by
  have e8 := h8 h1 h2
  have e0 : (0 : Int32).toInt = 0 := rfl
  have e10 : (10 : Int32).toInt = 10 := rfl
  have e6 : (6 : Int32).toInt = 6 := rfl
  have e : c_place h r = (h - 8) * 6 + r := by
    unfold c_place
    rw [decide_eq_false (by rw [i_lt]; omega), decide_eq_true (by rw [i_lt]; omega), decide_eq_false (by rw [i_lt]; omega), decide_eq_true (by rw [i_lt]; omega)]
    rfl
  have e2 : (c_place h r).toInt = (h.toInt - 8) * 6 + r.toInt := by
    rw [e, Int32.toInt_add, Int32.toInt_mul, e6, e8, Int.bmod_def, Int.bmod_def]
    omega
  refine ⟨e2, fun z => ?_⟩
  rw [z] at e2
  have : (-1 : Int32).toInt = -1 := rfl
  omega
theorem po_0 : PO (fun _ => False) pl0 := by
  refine ⟨fun h w h1 h2 h3 h4 => ⟨fun z => ?_, fun ⟨x, z, _⟩ => z.elim⟩, fun h r h1 h2 h3 h4 => Or.inl ⟨?_, fun ⟨x, z, _⟩ => z.elim⟩⟩
  · exfalso
    unfold c_taken pl0 at z
    rcases i03 ⟨h3, h4⟩ with e | e | e | e <;> subst e <;> simp at z
  · unfold c_hallAt pl0
    by_cases e : c_place h r = -1
    · rw [decide_eq_true e]; rfl
    · rw [decide_eq_false e]; rfl
theorem po_congr {S S' : Int32 → Prop} {pl : Pl} (h : PO S pl) (e : ∀ x, S x ↔ S' x) : PO S' pl := by
  have : S = S' := funext fun x => propext (e x)
  rw [← this]; exact h
theorem po_take {S : Int32 → Prop} {pl : Pl} {x : Int32} (h : PO S pl) (hx : sOK x) : PO (fun y => S y ∨ y = x) (c_take pl x) := by
  obtain ⟨x1, x2, x3, x4, x5, x6⟩ := hx
  obtain ⟨p1, p2⟩ := place_v x1 x2 x5 x6
  have e8x := h8 x1 x2
  have et : c_take pl x = (upd pl.1 (x / 100 - 8).toNatClampNeg (pl.1 (x / 100 - 8).toNatClampNeg ||| (1 <<< (rm (x / 10) 10 &&& 31))), upd pl.2 (c_place (x / 100) (rm x 10)).toNatClampNeg (rm (x / 10) 10)) := by
    unfold c_take
    rw [decide_eq_false p2]
    rfl
  have e0 : (0 : Int32).toInt = 0 := rfl
  have e10 : (10 : Int32).toInt = 10 := rfl
  rw [et]
  refine ⟨fun h' w h1 h2 h3 h4 => ?_, fun h' r h1 h2 h3 h4 => ?_⟩
  · have e8 := h8 h1 h2
    have hT := h.1 h' w h1 h2 h3 h4
    rw [taken_bt] at hT ⊢
    rw [decide_eq_false (by rw [i_lt]; omega), decide_eq_true (by rw [i_lt]; omega)] at hT ⊢
    simp only [Bool.not_false, Bool.true_and] at hT ⊢
    by_cases e : h' = x / 100
    · subst e
      rw [upd_eq, bt_or ⟨x3, x4⟩ ⟨h3, h4⟩, Bool.or_eq_true, hT, decide_eq_true_eq]
      constructor
      · rintro (⟨y, a, b⟩ | z)
        · exact ⟨y, Or.inl a, b⟩
        · exact ⟨x, Or.inr rfl, rfl, z⟩
      · rintro ⟨y, a | a, b⟩
        · exact Or.inl ⟨y, a, b⟩
        · subst a; exact Or.inr b.2
    · rw [upd_ne (fun z => e (by
        have c1 := i_clamp (x := h' - 8) (by omega)
        have c2 := i_clamp (x := x / 100 - 8) (by omega)
        rw [i_eq]
        omega)), hT]
      constructor
      · rintro ⟨y, a, b⟩
        exact ⟨y, Or.inl a, b⟩
      · rintro ⟨y, a | a, b⟩
        · exact ⟨y, a, b⟩
        · subst a; exact absurd b.1.symm e
  · have hR := h.2 h' r h1 h2 h3 h4
    obtain ⟨q1, q2⟩ := place_v h1 h2 h3 h4
    unfold c_hallAt at hR ⊢
    rw [decide_eq_false q2] at hR ⊢
    simp only [Bool.false_eq_true, if_false] at hR ⊢
    by_cases e : h' = x / 100 ∧ r = rm x 10
    · obtain ⟨rfl, rfl⟩ := e
      rw [upd_eq]
      exact Or.inr ⟨x, Or.inr rfl, rfl, rfl, rfl⟩
    · rw [upd_ne (fun z => e (by
        have c1 := i_clamp (x := c_place h' r) (by omega)
        have c2 := i_clamp (x := c_place (x / 100) (rm x 10)) (by omega)
        rw [i_eq, i_eq]
        omega))]
      rcases hR with ⟨a, b⟩ | ⟨y, a, b⟩
      · refine Or.inl ⟨a, ?_⟩
        rintro ⟨y, c | c, d⟩
        · exact b ⟨y, c, d⟩
        · subst c; exact e ⟨d.1.symm, d.2.symm⟩
      · exact Or.inr ⟨y, Or.inl a, b⟩
/-- the class's bar by the plan -/
theorem barTo_eq {S : Int32 → Prop} {pl : Pl} {x : Int32} {b4 b5 b6 : Bool} (h : PO S pl) (hS : ∀ y, S y → sOK y) (hU : ∀ y z, S y → S z → y / 100 = z / 100 → rm y 10 = rm z 10 → rm (y / 10) 10 = rm (z / 10) 10) (hx : sOK x)
    (h4 : b4 = true ↔ ∃ y, S y ∧ y / 100 = x / 100 ∧ rm (y / 10) 10 = rm (x / 10) 10) (h5 : b5 = true ↔ ∃ y, S y ∧ y / 100 = x / 100 ∧ rm y 10 = rm x 10)
    (h6 : b6 = true ↔ ∃ y, S y ∧ (y / 100 = x / 100 - 1 ∨ y / 100 = x / 100 + 1) ∧ rm y 10 = rm x 10 ∧ ¬ rm (y / 10) 10 = rm (x / 10) 10) :
    c_barTo pl.1 pl.2 x = if b4 then 4 else if b5 then 5 else if b6 then 6 else 0 := by
  obtain ⟨x1, x2, x3, x4, x5, x6⟩ := hx
  have e1 : (1 : Int32).toInt = 1 := rfl
  have em : (-1 : Int32).toInt = -1 := rfl
  have hp : (x / 100 + 1).toInt = (x / 100).toInt + 1 := i_add (by omega) (by omega)
  have hm : (x / 100 - 1).toInt = (x / 100).toInt - 1 := i_sub (by omega) (by omega)
  have k4 : c_taken pl.1 (x / 100) (rm (x / 10) 10) = b4 := Bool.eq_iff_iff.mpr ((h.1 _ _ x1 x2 x3 x4).trans h4.symm)
  have k5 : (!decide (c_hallAt pl.2 (x / 100) (rm x 10) = -1)) = b5 := by
    apply Bool.eq_iff_iff.mpr
    rw [h5, Bool.not_eq_true', decide_eq_false_iff_not]
    rcases h.2 _ _ x1 x2 x5 x6 with ⟨a, b⟩ | ⟨y, a, b, c, d⟩
    · exact ⟨fun z => absurd a z, fun z => absurd z b⟩
    · refine ⟨fun _ => ⟨y, a, b, c⟩, fun _ z => ?_⟩
      have := (hS y a).2.2.1
      rw [← d, z] at this
      omega
  have side : ∀ g : Int32, (g = x / 100 - 1 ∨ g = x / 100 + 1) → ((!decide (c_hallAt pl.2 g (rm x 10) = -1) && !decide (c_hallAt pl.2 g (rm x 10) = rm (x / 10) 10)) = true ↔ ∃ y, S y ∧ y / 100 = g ∧ rm y 10 = rm x 10 ∧ ¬ rm (y / 10) 10 = rm (x / 10) 10) := fun g hg => by
    rw [Bool.and_eq_true, Bool.not_eq_true', Bool.not_eq_true', decide_eq_false_iff_not, decide_eq_false_iff_not]
    by_cases hr : 8 ≤ g.toInt ∧ g.toInt ≤ 17
    · rcases h.2 g _ hr.1 hr.2 x5 x6 with ⟨a, b⟩ | ⟨y, a, b, c, d⟩
      · exact ⟨fun z => absurd a z.1, fun ⟨y, z1, z2, z3, _⟩ => absurd ⟨y, z1, z2, z3⟩ b⟩
      · constructor
        · rintro ⟨-, z⟩
          exact ⟨y, a, b, c, by rw [← d]; exact z⟩
        · rintro ⟨y', z1, z2, z3, z4⟩
          have e := hU y y' a z1 (b.trans z2.symm) (c.trans z3.symm)
          refine ⟨fun z => ?_, fun z => z4 ?_⟩
          · have := (hS y a).2.2.1
            rw [← d, z] at this
            omega
          · rw [← e, ← d]; exact z
    · have hn : c_hallAt pl.2 g (rm x 10) = -1 := by
        unfold c_hallAt
        have hc : c_place g (rm x 10) = -1 := by
          by_cases z : c_place g (rm x 10) = -1
          · exact z
          · obtain ⟨z1, z2, -⟩ := place_eq z
            have e8 : (g - 8).toInt = g.toInt - 8 := by
              have e : (8 : Int32).toInt = 8 := rfl
              rcases hg with rfl | rfl <;> rw [i_sub (by omega) (by omega), e]
            omega
        rw [decide_eq_true hc]
        rfl
      refine ⟨fun z => absurd hn z.1, fun ⟨y, z1, z2, _⟩ => ?_⟩
      have := hS y z1
      rw [← z2] at hr
      exact absurd ⟨this.1, this.2.1⟩ hr
  have k6 : ((!decide (c_hallAt pl.2 (x / 100 - 1) (rm x 10) = -1) && !decide (c_hallAt pl.2 (x / 100 - 1) (rm x 10) = rm (x / 10) 10)) || (!decide (c_hallAt pl.2 (x / 100 + 1) (rm x 10) = -1) && !decide (c_hallAt pl.2 (x / 100 + 1) (rm x 10) = rm (x / 10) 10))) = b6 := by
    apply Bool.eq_iff_iff.mpr
    rw [Bool.or_eq_true, side _ (Or.inl rfl), side _ (Or.inr rfl), h6]
    constructor
    · rintro (⟨y, a, b, c⟩ | ⟨y, a, b, c⟩)
      · exact ⟨y, a, Or.inl b, c⟩
      · exact ⟨y, a, Or.inr b, c⟩
    · rintro ⟨y, a, b | b, c⟩
      · exact Or.inl ⟨y, a, b, c⟩
      · exact Or.inr ⟨y, a, b, c⟩
  unfold c_barTo
  rw [k4, k5, k6]
/-! the reference's worst -/
def anyN (p : Nat → Bool) : Nat → Nat → Bool
  | 0, _ => false
  | f + 1, k => p k || anyN p f (k + 1)
theorem anyN_iff {p : Nat → Bool} : ∀ {f k : Nat}, anyN p f k = true ↔ ∃ i, k ≤ i ∧ i < k + f ∧ p i = true
  | 0, k => ⟨fun h => absurd h (by simp [anyN]), fun ⟨i, h1, h2, _⟩ => by omega⟩
  | f + 1, k => by
    rw [anyN, Bool.or_eq_true, anyN_iff (f := f)]
    constructor
    · rintro (h | ⟨i, h1, h2, h3⟩)
      · exact ⟨k, by omega, by omega, h⟩
      · exact ⟨i, by omega, by omega, h3⟩
    · rintro ⟨i, h1, h2, h3⟩
      by_cases e : i = k
      · exact Or.inl (e ▸ h3)
      · exact Or.inr ⟨i, by omega, by omega, h3⟩
def encW (a b c : Bool) : Int32 := if a then 4 else if b then 5 else if c then 6 else 8
def inB (σ : St) (day n : Int32) (k : Nat) : Bool := !(decide (nI k = n) || !decide (gA σ 21 (nI k) = day))
def p4 (σ : St) (h w : Int32) (k : Nat) : Bool := decide (gA σ 22 (nI k) / 100 = h) && decide (rm (gA σ 22 (nI k) / 10) 10 = w)
def p5 (σ : St) (h r : Int32) (k : Nat) : Bool := decide (gA σ 22 (nI k) / 100 = h) && decide (rm (gA σ 22 (nI k)) 10 = r)
def p6 (σ : St) (h w r : Int32) (k : Nat) : Bool := (decide (gA σ 22 (nI k) / 100 = h - 1) || decide (gA σ 22 (nI k) / 100 = h + 1)) && (decide (rm (gA σ 22 (nI k)) 10 = r) && !decide (rm (gA σ 22 (nI k) / 10) 10 = w))
theorem b1_enc {σ : St} {h w r : Int32} {k : Nat} {a b c : Bool} : m_b1 σ h w r (nI k) (encW a b c) = encW (a || p4 σ h w k) (b || p5 σ h r k) (c || p6 σ h w r k) := by
  unfold m_b1 m_bA m_bB m_bC
  show (if p6 σ h w r k then m_min (if p5 σ h r k then m_min (if p4 σ h w k then m_min (encW a b c) 4 else encW a b c) 5 else (if p4 σ h w k then m_min (encW a b c) 4 else encW a b c)) 6 else (if p5 σ h r k then m_min (if p4 σ h w k then m_min (encW a b c) 4 else encW a b c) 5 else (if p4 σ h w k then m_min (encW a b c) 4 else encW a b c))) = _
  cases p4 σ h w k <;> cases p5 σ h r k <;> cases p6 σ h w r k <;> cases a <;> cases b <;> cases c <;> decide
theorem baL_enc {σ : St} {n day h w r : Int32} : ∀ (f k : Nat) (a b c : Bool), m_baL σ n day h w r f k (encW a b c) = encW (a || anyN (fun i => inB σ day n i && p4 σ h w i) f k) (b || anyN (fun i => inB σ day n i && p5 σ h r i) f k) (c || anyN (fun i => inB σ day n i && p6 σ h w r i) f k)
  | 0, k, a, b, c => by rw [m_baL, anyN, anyN, anyN, Bool.or_false, Bool.or_false, Bool.or_false]
  | f + 1, k, a, b, c => by
    rw [m_baL, anyN, anyN, anyN]
    show m_baL σ n day h w r f (k + 1) (if (decide (nI k = n) || !decide (gA σ 21 (nI k) = day)) = true then encW a b c else m_b1 σ h w r (nI k) (encW a b c)) = _
    have e : inB σ day n k = !(decide (nI k = n) || !decide (gA σ 21 (nI k) = day)) := rfl
    rw [e]
    cases (decide (nI k = n) || !decide (gA σ 21 (nI k) = day))
    · rw [if_neg (by decide), b1_enc, baL_enc f (k + 1)]
      simp only [Bool.not_false, Bool.true_and, Bool.or_assoc]
    · rw [if_pos rfl, baL_enc f (k + 1)]
      simp only [Bool.not_true, Bool.false_and, Bool.false_or]
