/-! BOOKING AND ORDER ALIKE -/
def BS (σ : St) (d n : Int32) (m : Nat) : Int32 → Prop := fun x => ∃ k, k < m ∧ inB σ d n k = true ∧ gA σ 22 (nI k) = x
section BK
variable {σ : St} {d n : Int32}
theorem g_nI {t k : Nat} (h : k < 2 ^ 31) : gA σ t (nI k) = σ t k := by unfold gA; rw [nI_clamp h]
theorem inB_iff {k : Nat} : inB σ d n k = true ↔ ¬ nI k = n ∧ gA σ 21 (nI k) = d := by
  unfold inB
  rw [Bool.not_eq_true', Bool.or_eq_false_iff, decide_eq_false_iff_not, Bool.not_eq_false', decide_eq_true_eq]
theorem fC_eq {k : Nat} (hd : ¬ d = -1) : c_fC σ d n (nI k) = inB σ d n k := by
  apply Bool.eq_iff_iff.mpr
  rw [inB_iff]
  unfold c_fC
  rw [Bool.and_eq_true, Bool.and_eq_true, Bool.not_eq_true', Bool.not_eq_true', decide_eq_false_iff_not, decide_eq_false_iff_not, decide_eq_true_eq]
  exact ⟨fun h => ⟨h.1, h.2.2⟩, fun h => ⟨h.1, by rw [h.2]; exact hd, h.2⟩⟩
theorem bs_ok (hI : InvM σ) (hB : InvB σ) (hd : ¬ d = -1) {x : Int32} (h : BS σ d n (nn σ 23) x) : sOK x := by
  have hn := cnt_le (N := 60) hI.1.2.2.2.2.1
  obtain ⟨k, h1, h2, h3⟩ := h
  have h4 := (inB_iff.mp h2).2
  rw [g_nI (by omega)] at h3 h4
  rcases hB.1 k h1 with e | e
  · exact absurd (h4.symm.trans e) hd
  · rw [← h3]; exact e.2
theorem bs_u (hI : InvM σ) (hB : InvB σ) (hd : ¬ d = -1) {y z : Int32} (hy : BS σ d n (nn σ 23) y) (hz : BS σ d n (nn σ 23) z) (e1 : y / 100 = z / 100) (e2 : rm y 10 = rm z 10) : y = z := by
  have hn := cnt_le (N := 60) hI.1.2.2.2.2.1
  obtain ⟨k, h1, h2, h3⟩ := hy
  obtain ⟨k', h1', h2', h3'⟩ := hz
  have h4 := (inB_iff.mp h2).2
  have h4' := (inB_iff.mp h2').2
  rw [g_nI (by omega)] at h3 h4 h3' h4'
  by_cases e : k = k'
  · rw [← h3, ← h3', e]
  · refine absurd ?_ (hB.2 k k' h1 h1' e (by rw [h4]; exact hd) (h4.trans h4'.symm))
    rw [h3, h3']
    exact ⟨e1, e2⟩
theorem fiL_po (hI : InvM σ) (hB : InvB σ) (hd : ¬ d = -1) : ∀ (f k : Nat) (pl : Pl), k + f = nn σ 23 → PO (BS σ d n k) pl → PO (BS σ d n (nn σ 23)) (c_fiL σ d n f k pl)
  | 0, k, pl, hk, h => by
    rw [c_fiL, ← hk, Nat.add_zero]; exact h
  | f + 1, k, pl, hk, h => by
    have hn := cnt_le (N := 60) hI.1.2.2.2.2.1
    rw [c_fiL, fC_eq hd]
    refine fiL_po hI hB hd f (k + 1) _ (by omega) ?_
    cases e : inB σ d n k
    · rw [if_neg (by decide)]
      refine po_congr h (fun x => ⟨fun ⟨i, a, b⟩ => ⟨i, by omega, b⟩, fun ⟨i, a, b, c⟩ => ⟨i, ?_, b, c⟩⟩)
      by_cases z : i = k
      · rw [z, e] at b; exact absurd b (by decide)
      · omega
    · rw [if_pos rfl]
      have h4 := (inB_iff.mp e).2
      rw [g_nI (by omega)] at h4
      have hx : sOK (gA σ 22 (nI k)) := by
        rw [g_nI (by omega)]
        rcases hB.1 k (by omega) with z | z
        · exact absurd (h4.symm.trans z) hd
        · exact z.2
      refine po_congr (po_take h hx) (fun x => ⟨?_, ?_⟩)
      · rintro (⟨i, a, b⟩ | z)
        · exact ⟨i, by omega, b⟩
        · exact ⟨k, by omega, e, z.symm⟩
      · rintro ⟨i, a, b, c⟩
        by_cases z : i = k
        · exact Or.inr (by rw [← c, z])
        · exact Or.inl ⟨i, by omega, b, c⟩
theorem fill_po (hI : InvM σ) (hB : InvB σ) (hd : ¬ d = -1) : PO (BS σ d n (nn σ 23)) (c_fill σ d n) :=
  fiL_po hI hB hd (nn σ 23) 0 pl0 (by omega) (po_congr po_0 (fun x => ⟨fun z => z.elim, fun ⟨i, a, _⟩ => by omega⟩))
def w4 (σ : St) (d n x : Int32) : Bool := anyN (fun i => inB σ d n i && p4 σ (x / 100) (rm (x / 10) 10) i) (nn σ 23) 0
def w5 (σ : St) (d n x : Int32) : Bool := anyN (fun i => inB σ d n i && p5 σ (x / 100) (rm x 10) i) (nn σ 23) 0
def w6 (σ : St) (d n x : Int32) : Bool := anyN (fun i => inB σ d n i && p6 σ (x / 100) (rm (x / 10) 10) (rm x 10) i) (nn σ 23) 0
theorem baL_w {x : Int32} : m_baL σ n d (x / 100) (rm (x / 10) 10) (rm x 10) (nn σ 23) 0 8 = encW (w4 σ d n x) (w5 σ d n x) (w6 σ d n x) := by
  have h := baL_enc (σ := σ) (n := n) (day := d) (h := x / 100) (w := rm (x / 10) 10) (r := rm x 10) (nn σ 23) 0 false false false
  rw [Bool.false_or, Bool.false_or, Bool.false_or] at h
  exact h
theorem barTo_w (hI : InvM σ) (hB : InvB σ) (hd : ¬ d = -1) {pl : Pl} (hp : PO (BS σ d n (nn σ 23)) pl) {x : Int32} (hx : sOK x) : c_barTo pl.1 pl.2 x = if w4 σ d n x then 4 else if w5 σ d n x then 5 else if w6 σ d n x then 6 else 0 := by
  refine barTo_eq hp (fun y hy => bs_ok hI hB hd hy) (fun y z hy hz e1 e2 => by rw [bs_u hI hB hd hy hz e1 e2]) hx ?_ ?_ ?_
  · unfold w4
    rw [anyN_iff]
    constructor
    · rintro ⟨i, -, h2, h3⟩
      unfold p4 at h3
      rw [Bool.and_eq_true, Bool.and_eq_true, decide_eq_true_eq, decide_eq_true_eq] at h3
      exact ⟨_, ⟨i, by omega, h3.1, rfl⟩, h3.2⟩
    · rintro ⟨y, ⟨i, a, b, rfl⟩, c⟩
      refine ⟨i, by omega, by omega, ?_⟩
      unfold p4
      rw [Bool.and_eq_true, Bool.and_eq_true, decide_eq_true_eq, decide_eq_true_eq]
      exact ⟨b, c⟩
  · unfold w5
    rw [anyN_iff]
    constructor
    · rintro ⟨i, -, h2, h3⟩
      unfold p5 at h3
      rw [Bool.and_eq_true, Bool.and_eq_true, decide_eq_true_eq, decide_eq_true_eq] at h3
      exact ⟨_, ⟨i, by omega, h3.1, rfl⟩, h3.2⟩
    · rintro ⟨y, ⟨i, a, b, rfl⟩, c⟩
      refine ⟨i, by omega, by omega, ?_⟩
      unfold p5
      rw [Bool.and_eq_true, Bool.and_eq_true, decide_eq_true_eq, decide_eq_true_eq]
      exact ⟨b, c⟩
  · unfold w6
    rw [anyN_iff]
    constructor
    · rintro ⟨i, -, h2, h3⟩
      unfold p6 at h3
      rw [Bool.and_eq_true, Bool.and_eq_true, Bool.or_eq_true, Bool.and_eq_true, Bool.not_eq_true', decide_eq_true_eq, decide_eq_true_eq, decide_eq_true_eq, decide_eq_false_iff_not] at h3
      exact ⟨_, ⟨i, by omega, h3.1, rfl⟩, h3.2.1, h3.2.2.1, h3.2.2.2⟩
    · rintro ⟨y, ⟨i, a, b, rfl⟩, c1, c2, c3⟩
      refine ⟨i, by omega, by omega, ?_⟩
      unfold p6
      rw [Bool.and_eq_true, Bool.and_eq_true, Bool.or_eq_true, Bool.and_eq_true, Bool.not_eq_true', decide_eq_true_eq, decide_eq_true_eq, decide_eq_true_eq, decide_eq_false_iff_not]
      exact ⟨b, c1, c2, c3⟩
theorem speaks_eq {r : Int32} (h1 : 0 ≤ r.toInt) (h2 : r.toInt < 6) : c_speaks σ r n = !m_dumb σ n r := by
  have e0 : (0 : Int32).toInt = 0 := rfl
  have e6 : (nI 6).toInt = 6 := rfl
  unfold c_speaks m_dumb
  rw [decide_eq_false (by rw [i_lt]; omega), decide_eq_true (by rw [i_lt]; omega), Bool.not_or]
  rfl
/-- the worst of all, as the reference tells it -/
def wst (σ : St) (n d x : Int32) : Int32 := if decide (m_worst σ n d (x / 100) (rm (x / 10) 10) (rm x 10) = 8) then 0 else m_worst σ n d (x / 100) (rm (x / 10) 10) (rm x 10)
theorem wst_cases {x : Int32} : (wst σ n d x = if w4 σ d n x then 4 else if w5 σ d n x then 5 else if w6 σ d n x then 6 else if m_dumb σ n (rm x 10) then 7 else 0) := by
  unfold wst m_worst
  rw [baL_w]
  cases w4 σ d n x <;> cases w5 σ d n x <;> cases w6 σ d n x <;> cases m_dumb σ n (rm x 10) <;> decide
theorem barS_eq (hI : InvM σ) (hB : InvB σ) (hd : ¬ d = -1) {pl : Pl} (hp : PO (BS σ d n (nn σ 23)) pl) {x : Int32} (hx : sOK x) : c_barS σ pl.1 pl.2 n x = wst σ n d x := by
  rw [wst_cases]
  unfold c_barS
  rw [barTo_w hI hB hd hp hx, speaks_eq hx.2.2.2.2.1 hx.2.2.2.2.2]
  cases w4 σ d n x <;> cases w5 σ d n x <;> cases w6 σ d n x <;> cases m_dumb σ n (rm x 10) <;> decide
theorem bars_wst {x : Int32} : m_bars σ n d (x / 100) (rm (x / 10) 10) (rm x 10) = if !decide (gA σ 20 n = 0) then 1 else if !m_isFree σ d then 2 else if !m_isRipe σ n d then 3 else wst σ n d x := rfl
theorem barD_eq (hI : InvM σ) (hF : InvF σ) (hO : InvO σ) (hn : okN σ n) (hd : okD d) (hp : (gA σ 19 n).toInt ≤ d.toInt) : c_barD σ n d = if !decide (gA σ 20 n = 0) then 1 else if !m_isFree σ d then 2 else if !m_isRipe σ n d then 3 else 0 := by
  unfold c_barD
  rw [ripe_eq hI hF hO hn hd hp]
  cases decide (gA σ 20 n = 0) <;> cases m_isFree σ d <;> cases m_isRipe σ n d <;> decide
theorem bars_0 {x : Int32} (h : m_bars σ n d (x / 100) (rm (x / 10) 10) (rm x 10) = 0) : w5 σ d n x = false := by
  rw [bars_wst, wst_cases] at h
  cases e : w5 σ d n x
  · rfl
  · rw [e] at h
    exfalso
    revert h
    cases decide (gA σ 20 n = 0) <;> cases m_isFree σ d <;> cases m_isRipe σ n d <;> cases w4 σ d n x <;> cases w6 σ d n x <;> cases m_dumb σ n (rm x 10) <;> decide
theorem bars_ge {x : Int32} : decide (0 < m_bars σ n d (x / 100) (rm (x / 10) 10) (rm x 10)) = !decide (m_bars σ n d (x / 100) (rm (x / 10) 10) (rm x 10) = 0) := by
  rw [bars_wst, wst_cases]
  cases decide (gA σ 20 n = 0) <;> cases m_isFree σ d <;> cases m_isRipe σ n d <;> cases w4 σ d n x <;> cases w5 σ d n x <;> cases w6 σ d n x <;> cases m_dumb σ n (rm x 10) <;> decide
theorem invB_bo (hI : InvM σ) (hB : InvB σ) (hn : okN σ n) (hd : 0 ≤ d.toInt) {x : Int32} (hx : sOK x) (h5 : w5 σ d n x = false) : InvB (m_boS σ n d x) := by
  have hc := cnt_le (N := 60) hI.1.2.2.2.2.1
  have hd1 : ¬ d = -1 := fun e => by
    rw [e] at hd
    exact absurd hd (by decide)
  have e21 : ∀ i, m_boS σ n d x 21 i = if i = n.toNatClampNeg then d else σ 21 i := fun i => by
    unfold m_boS
    rw [sA_ne (by decide)]
    by_cases e : i = n.toNatClampNeg
    · rw [if_pos e, e, sA_me]
    · rw [if_neg e, sA_at e]
  have e22 : ∀ i, m_boS σ n d x 22 i = if i = n.toNatClampNeg then x else σ 22 i := fun i => by
    unfold m_boS
    by_cases e : i = n.toNatClampNeg
    · rw [if_pos e, e, sA_me]
    · rw [if_neg e, sA_at e, sA_ne (by decide)]
  have en : nn (m_boS σ n d x) 23 = nn σ 23 := by unfold nn; rw [bo_at (by omega)]
  have hno : ∀ k, k < nn σ 23 → k ≠ n.toNatClampNeg → σ 21 k = d → ¬ (σ 22 k / 100 = x / 100 ∧ rm (σ 22 k) 10 = rm x 10) := fun k h1 h2 h3 h4 => by
    have : w5 σ d n x = true := by
      unfold w5
      rw [anyN_iff]
      refine ⟨k, by omega, by omega, ?_⟩
      unfold p5
      rw [Bool.and_eq_true, Bool.and_eq_true, decide_eq_true_eq, decide_eq_true_eq, inB_iff, g_nI (by omega), g_nI (by omega)]
      refine ⟨⟨fun z => h2 ?_, h3⟩, h4⟩
      rw [← z, nI_clamp (by omega)]
    rw [h5] at this
    exact absurd this (by decide)
  refine ⟨fun i hi => ?_, fun i j hi hj hne h1 h2 => ?_⟩
  · rw [en] at hi
    rw [e21, e22]
    by_cases e : i = n.toNatClampNeg
    · rw [if_pos e, if_pos e]; exact Or.inr ⟨hd, hx⟩
    · rw [if_neg e, if_neg e]; exact hB.1 i hi
  · rw [en] at hi hj
    rw [e21] at h1
    rw [e21, e21] at h2
    rw [e22, e22]
    by_cases ei : i = n.toNatClampNeg
    · have ej : ¬ j = n.toNatClampNeg := fun z => hne (ei.trans z.symm)
      rw [if_pos ei] at h1 h2 ⊢
      rw [if_neg ej] at h2 ⊢
      exact fun z => hno j hj ej h2.symm ⟨z.1.symm, z.2.symm⟩
    · rw [if_neg ei] at h1 h2 ⊢
      by_cases ej : j = n.toNatClampNeg
      · rw [if_pos ej] at h2 ⊢
        exact fun z => hno i hi ei h2 z
      · rw [if_neg ej] at h2 ⊢
        exact hB.2 i j hi hj hne h1 h2
end BK
theorem inv_bo {σ : St} {n d x : Int32} (h : Inv σ) (hB : InvB (m_boS σ n d x)) : Inv (m_boS σ n d x) := by
  obtain ⟨h1, h2, h3, h4, h5, h6, h7, h8, h9, h10, h11, h12, h13⟩ := h
  exact ⟨invM_bo h1, invL_of h2 (fun k hk => bo_at (by omega)) (cnt_le (N := 60) h1.1.2.1), invP_of h3 (fun k hk => bo_at (by omega)), invJ_of h4 (fun k hk => bo_at (by omega)), invZ_of h5 (fun k hk => bo_at (by omega)), invQ_of h6 (fun k hk => bo_at (by omega)), invK_of h7 (fun k hk => bo_at (by omega)), invO_of h8 (fun k hk => bo_at (by omega)), invD_of h9 (fun k hk => bo_at (by omega)), invF_of h10 (bo_at (by omega)), invW_of h11 (fun k hk => bo_at (by omega)), invN_of h1 h12 (fun k hk => bo_at (by omega)), hB⟩
theorem isSlot_eq {σ : St} {x : Int32} : c_isSlot σ x = !(decide (x < 0) || !m_in (x / 100) 8 17 || decide (3 < rm (x / 10) 10) || !decide (rm x 10 < σ 28 0)) := by
  have e18 : decide (x / 100 < 18) = !decide (17 < x / 100) := by
    rw [← decide_not]
    apply decide_eq_decide.mpr
    rw [i_lt, i_lt]
    have a1 : (18 : Int32).toInt = 18 := rfl
    have a2 : (17 : Int32).toInt = 17 := rfl
    omega
  have e4 : decide (rm (x / 10) 10 < 4) = !decide (3 < rm (x / 10) 10) := by
    rw [← decide_not]
    apply decide_eq_decide.mpr
    rw [i_lt, i_lt]
    have a1 : (4 : Int32).toInt = 4 := rfl
    have a2 : (3 : Int32).toInt = 3 := rfl
    omega
  unfold c_isSlot m_in
  rw [e18, e4]
  cases decide (x < 0) <;> cases decide (x / 100 < 8) <;> cases decide (17 < x / 100) <;> cases decide (3 < rm (x / 10) 10) <;> cases decide (rm x 10 < σ 28 0) <;> rfl
theorem isSlot_ok {σ : St} {x : Int32} (hI : InvM σ) (h : c_isSlot σ x = true) : sOK x := by
  unfold c_isSlot at h
  simp only [Bool.and_eq_true, Bool.not_eq_true', decide_eq_true_eq, decide_eq_false_iff_not] at h
  obtain ⟨a1, a2, a3, a4, a5⟩ := h
  have h28 := hI.1.2.2.2.2.2.2.1.2
  have r1 := rm_rng a1
  have a1' : ¬ x / 10 < 0 := by
    obtain ⟨j, hj, rfl⟩ := nI_of a1
    rw [show (10 : Int32) = nI 10 from rfl, pk_div hj (by decide) (by decide)]
    exact nI_nn (by omega)
  have r2 := rm_rng a1'
  rw [i_lt] at a2 a3 a4 a5
  have e8 : (8 : Int32).toInt = 8 := rfl
  have e18 : (18 : Int32).toInt = 18 := rfl
  have e4 : (4 : Int32).toInt = 4 := rfl
  exact ⟨by omega, by omega, r2.1, by omega, r1.1, by omega⟩
theorem book_eq {σ : St} {n d x : Int32} (h : Inv σ) : k_book σ n d x = m_bookR σ n d x ∧ Inv (k_book σ n d x).2 := by
  have hh := h
  obtain ⟨hI, h2, h3, h4, h5, h6, h7, hO, hD, hF, h11, h12, hB⟩ := hh
  have eb : c_boBad σ n d x = m_boBad σ n d x := by
    unfold c_boBad m_boBad
    rw [isSlot_eq]
    cases m_isN σ n <;> cases decide (x < 0) <;> cases m_in (x / 100) 8 17 <;> cases decide (3 < rm (x / 10) 10) <;> cases decide (rm x 10 < σ 28 0) <;> cases m_in d (σ 0 0) 20000 <;> rfl
  unfold k_book m_bookR m_book
  rw [eb]
  cases hb : m_boBad σ n d x
  · rw [← eb] at hb
    unfold c_boBad at hb
    simp only [Bool.or_eq_false_iff, Bool.not_eq_false'] at hb
    obtain ⟨b1, b2, b3⟩ := hb
    have hn := isN_ok hI b1
    have hx := isSlot_ok hI b3
    have hd := okD_now hI b2
    have hd1 : ¬ d = -1 := fun e => by
      have := hd.1
      rw [e] at this
      exact absurd this (by decide)
    have hp : (gA σ 19 n).toInt ≤ d.toInt := by
      have := (hD _ (okN_lt hn)).2
      have h1 := (m_in_iff.mp b2).1
      have : (gA σ 19 n).toInt ≤ (σ 0 0).toInt := this
      omega
    have ek : k_bookB σ n d x = m_bars σ n d (x / 100) (rm (x / 10) 10) (rm x 10) := by
      unfold k_bookB
      rw [barD_eq hI hF hO hn hd hp, barS_eq hI hB hd1 (fill_po hI hB hd1) hx, bars_wst]
      cases decide (gA σ 20 n = 0) <;> cases m_isFree σ d <;> cases m_isRipe σ n d <;> rfl
    rw [ek]
    simp only [Bool.false_eq_true, if_false, Bool.or_false]
    rw [bars_ge]
    by_cases e0 : m_bars σ n d (x / 100) (rm (x / 10) 10) (rm x 10) = 0
    · rw [decide_eq_true e0]
      simp only [Bool.not_true, Bool.false_eq_true, if_false, if_true]
      exact ⟨by rw [e0], inv_bo h (invB_bo hI hB hn hd.1 hx (bars_0 e0))⟩
    · rw [decide_eq_false e0]
      simp only [Bool.not_false, Bool.false_eq_true, if_false, if_true]
      exact ⟨by first | trivial | rfl, h⟩
  · simp only [if_true, Bool.or_true]
    exact ⟨by first | trivial | rfl, h⟩
