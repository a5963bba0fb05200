/-! BY ORDER -/
section ORD
variable {σ : St} {d n : Int32}
theorem slot_dec {h w r : Nat} (h1 : h ≤ 17) (h2 : w < 10) (h3 : r < 10) : (nI h * 100 + nI w * 10 + nI r) / 100 = nI h ∧ rm ((nI h * 100 + nI w * 10 + nI r) / 10) 10 = nI w ∧ rm (nI h * 100 + nI w * 10 + nI r) 10 = nI r ∧ nI h * 100 + nI w * 10 + nI r = nI (h * 100 + w * 10 + r) := by
  have e : nI h * 100 + nI w * 10 + nI r = nI (h * 100 + w * 10 + r) := by
    have a1 : nI h * 100 = nI (h * 100) := (Int32.ofNat_mul h 100).symm
    have a2 : nI w * 10 = nI (w * 10) := (Int32.ofNat_mul w 10).symm
    rw [a1, a2, nI_add, nI_add]
  rw [e]
  have d1 : nI (h * 100 + w * 10 + r) / 100 = nI ((h * 100 + w * 10 + r) / 100) := pk_div (d := 100) (by omega) (by decide) (by decide)
  have d2 : nI (h * 100 + w * 10 + r) / 10 = nI ((h * 100 + w * 10 + r) / 10) := pk_div (d := 10) (by omega) (by decide) (by decide)
  have d3 : rm (nI (h * 100 + w * 10 + r)) 10 = nI ((h * 100 + w * 10 + r) % 10) := pk_rem (d := 10) (by omega) (by decide) (by decide)
  have d4 : rm (nI ((h * 100 + w * 10 + r) / 10)) 10 = nI ((h * 100 + w * 10 + r) / 10 % 10) := pk_rem (d := 10) (by omega) (by decide) (by decide)
  refine ⟨?_, ?_, ?_, rfl⟩
  · rw [d1]; congr 1; omega
  · rw [d2, d4]; congr 1; omega
  · rw [d3]; congr 1; omega
theorem slot_ok {h w r : Nat} (h0 : 8 ≤ h) (h1 : h ≤ 17) (h2 : w < 4) (h3 : r < 6) : sOK (nI h * 100 + nI w * 10 + nI r) := by
  obtain ⟨a, b, c, -⟩ := slot_dec h1 (show w < 10 by omega) (show r < 10 by omega)
  unfold sOK
  rw [a, b, c, nI_toInt (by omega), nI_toInt (by omega), nI_toInt (by omega)]
  omega
theorem slot_comm {h w r : Nat} : 100 * nI h + 10 * nI w + nI r = nI h * 100 + nI w * 10 + nI r := by rw [Int32.mul_comm 100, Int32.mul_comm 10]
/-- what the reference's search finds is free -/
def okF (σ : St) (n d : Int32) (o : Option Int32) : Prop := ∀ x, o = some x → sOK x ∧ m_bars σ n d (x / 100) (rm (x / 10) 10) (rm x 10) = 0 ∧ ¬ x = -1
theorem slt_ne1 {h w r : Nat} (h1 : h ≤ 17) (h2 : w < 10) (h3 : r < 10) : ¬ nI h * 100 + nI w * 10 + nI r = -1 := by
  rw [(slot_dec h1 h2 h3).2.2.2]
  exact nI_ne1 (by omega)
theorem fiR_eq (hI : InvM σ) (hB : InvB σ) (hd : ¬ d = -1) {pl : Pl} (hp : PO (BS σ d n (nn σ 23)) pl) {h w : Nat} (h0 : 8 ≤ h) (h1 : h ≤ 17) (h2 : w < 4) : ∀ (f r : Nat), r + f = nn σ 28 → okF σ n d (m_fiR σ n d h w f r) ∧ (c_barD σ n d = 0 → c_barD σ n d = (if !decide (gA σ 20 n = 0) then 1 else if !m_isFree σ d then 2 else if !m_isRipe σ n d then 3 else 0) → c_frR σ pl.1 pl.2 n h w f r = m_fiR σ n d h w f r) ∧ ((∀ x, ¬ m_bars σ n d (x / 100) (rm (x / 10) 10) (rm x 10) = 0) → m_fiR σ n d h w f r = none)
  | 0, r, _ => ⟨fun x z => (by rw [m_fiR] at z; cases z), fun _ _ => rfl, fun _ => rfl⟩
  | f + 1, r, hr => by
    have h28 := cnt_le (N := 6) hI.1.2.2.2.2.2.2.1
    obtain ⟨i1, i2, i3⟩ := fiR_eq hI hB hd hp h0 h1 h2 f (r + 1) (by omega)
    obtain ⟨a, b, c, -⟩ := slot_dec (h := h) (w := w) (r := r) h1 (by omega) (by omega)
    have hx := slot_ok (h := h) (w := w) (r := r) h0 h1 h2 (by omega)
    have hge := bars_ge (σ := σ) (d := d) (n := n) (x := nI h * 100 + nI w * 10 + nI r)
    have hbw := bars_wst (σ := σ) (d := d) (n := n) (x := nI h * 100 + nI w * 10 + nI r)
    have hbs := barS_eq hI hB hd hp hx
    rw [a, b, c] at hge hbw
    rw [m_fiR, c_frR, slot_comm, hge, hbs]
    generalize hv : m_bars σ n d (nI h) (nI w) (nI r) = v at *
    refine ⟨?_, fun z1 z2 => ?_, fun z => ?_⟩
    · by_cases e : v = 0
      · rw [decide_eq_true e]
        intro x hx'
        simp only [Bool.not_true, Bool.false_eq_true, if_false, Option.some.injEq] at hx'
        subst hx'
        exact ⟨hx, by rw [a, b, c, hv]; exact e, slt_ne1 h1 (by omega) (by omega)⟩
      · rw [decide_eq_false e]
        simp only [Bool.not_false, if_true]
        exact i1
    · rw [z1] at z2
      have hw : v = wst σ n d (nI h * 100 + nI w * 10 + nI r) := by
        rw [hbw]
        revert z2
        cases decide (gA σ 20 n = 0) <;> cases m_isFree σ d <;> cases m_isRipe σ n d <;> simp
      rw [← hw, i2 z1 (z1.trans z2)]
      by_cases e : v = 0
      · rw [decide_eq_true e]; rfl
      · rw [decide_eq_false e]; rfl
    · have e : ¬ v = 0 := by
        have := z (nI h * 100 + nI w * 10 + nI r)
        rw [a, b, c, hv] at this
        exact this
      rw [decide_eq_false e]
      simp only [Bool.not_false, if_true]
      exact i3 z
theorem fiW_eq (hI : InvM σ) (hB : InvB σ) (hd : ¬ d = -1) {pl : Pl} (hp : PO (BS σ d n (nn σ 23)) pl) {h : Nat} (h0 : 8 ≤ h) (h1 : h ≤ 17) : ∀ (f w : Nat), w + f = 4 → okF σ n d (m_fiW σ n d h f w) ∧ (c_barD σ n d = 0 → c_barD σ n d = (if !decide (gA σ 20 n = 0) then 1 else if !m_isFree σ d then 2 else if !m_isRipe σ n d then 3 else 0) → c_frW σ pl.1 pl.2 n h f w = m_fiW σ n d h f w) ∧ ((∀ x, ¬ m_bars σ n d (x / 100) (rm (x / 10) 10) (rm x 10) = 0) → m_fiW σ n d h f w = none)
  | 0, w, _ => ⟨fun x z => (by rw [m_fiW] at z; cases z), fun _ _ => rfl, fun _ => rfl⟩
  | f + 1, w, hw => by
    obtain ⟨i1, i2, i3⟩ := fiW_eq hI hB hd hp h0 h1 f (w + 1) (by omega)
    obtain ⟨j1, j2, j3⟩ := fiR_eq hI hB hd hp h0 h1 (show w < 4 by omega) (nn σ 28) 0 (by omega)
    rw [m_fiW, c_frW]
    refine ⟨?_, fun z1 z2 => ?_, fun z => ?_⟩
    · cases e : m_fiR σ n d h w (nn σ 28) 0 with
      | some y => rw [e] at j1; exact j1
      | none => exact i1
    · rw [j2 z1 z2, i2 z1 z2]
      cases m_fiR σ n d h w (nn σ 28) 0 <;> rfl
    · rw [j3 z, i3 z]
theorem fiH_eq (hI : InvM σ) (hB : InvB σ) (hd : ¬ d = -1) {pl : Pl} (hp : PO (BS σ d n (nn σ 23)) pl) : ∀ (f h : Nat), h + f = 18 → 8 ≤ h → okF σ n d (m_fiH σ n d f h) ∧ (c_barD σ n d = 0 → c_barD σ n d = (if !decide (gA σ 20 n = 0) then 1 else if !m_isFree σ d then 2 else if !m_isRipe σ n d then 3 else 0) → c_frH σ pl.1 pl.2 n f h = m_fiH σ n d f h) ∧ ((∀ x, ¬ m_bars σ n d (x / 100) (rm (x / 10) 10) (rm x 10) = 0) → m_fiH σ n d f h = none)
  | 0, h, _, _ => ⟨fun x z => (by rw [m_fiH] at z; cases z), fun _ _ => rfl, fun _ => rfl⟩
  | f + 1, h, hh, h8 => by
    obtain ⟨i1, i2, i3⟩ := fiH_eq hI hB hd hp f (h + 1) (by omega) (by omega)
    obtain ⟨j1, j2, j3⟩ := fiW_eq hI hB hd hp (show 8 ≤ h by omega) (show h ≤ 17 by omega) 4 0 (by omega)
    rw [m_fiH, c_frH]
    refine ⟨?_, fun z1 z2 => ?_, fun z => ?_⟩
    · cases e : m_fiW σ n d h 4 0 with
      | some y => rw [e] at j1; exact j1
      | none => exact i1
    · rw [j2 z1 z2, i2 z1 z2]
      cases m_fiW σ n d h 4 0 <;> rfl
    · rw [j3 z, i3 z]
theorem bs_same (hI : InvM σ) (hn : okN σ n) (hu : gA σ 21 n = -1) (hd : ¬ d = -1) {x : Int32} : BS σ d (-1) (nn σ 23) x ↔ BS σ d n (nn σ 23) x := by
  have hc := cnt_le (N := 60) hI.1.2.2.2.2.1
  constructor
  · rintro ⟨k, a, b, c⟩
    refine ⟨k, a, inB_iff.mpr ⟨fun z => ?_, (inB_iff.mp b).2⟩, c⟩
    have := (inB_iff.mp b).2
    rw [z, hu] at this
    exact hd this.symm
  · rintro ⟨k, a, b, c⟩
    exact ⟨k, a, inB_iff.mpr ⟨nI_ne1 (by omega), (inB_iff.mp b).2⟩, c⟩
theorem bs_bo (hI : InvM σ) (hn : okN σ n) (hu : gA σ 21 n = -1) (hd : ¬ d = -1) {x y : Int32} : BS (m_boS σ n d x) d (-1) (nn σ 23) y ↔ (BS σ d (-1) (nn σ 23) y ∨ y = x) := by
  have hc := cnt_le (N := 60) hI.1.2.2.2.2.1
  have hl := okN_lt hn
  have e21 : ∀ k, k < 2 ^ 31 → gA (m_boS σ n d x) 21 (nI k) = if k = n.toNatClampNeg then d else gA σ 21 (nI k) := fun k hk => by
    rw [g_nI hk, g_nI hk]
    unfold m_boS
    rw [sA_ne (by decide)]
    by_cases e : k = n.toNatClampNeg
    · rw [if_pos e, e, sA_me]
    · rw [if_neg e, sA_at e]
  have e22 : ∀ k, k < 2 ^ 31 → gA (m_boS σ n d x) 22 (nI k) = if k = n.toNatClampNeg then x else gA σ 22 (nI k) := fun k hk => by
    rw [g_nI hk, g_nI hk]
    unfold m_boS
    by_cases e : k = n.toNatClampNeg
    · rw [if_pos e, e, sA_me]
    · rw [if_neg e, sA_at e, sA_ne (by decide)]
  constructor
  · rintro ⟨k, a, b, c⟩
    have b2 := (inB_iff.mp b).2
    rw [e21 k (by omega)] at b2
    rw [e22 k (by omega)] at c
    by_cases e : k = n.toNatClampNeg
    · rw [if_pos e] at c; exact Or.inr c.symm
    · rw [if_neg e] at b2 c
      exact Or.inl ⟨k, a, inB_iff.mpr ⟨nI_ne1 (by omega), b2⟩, c⟩
  · rintro (⟨k, a, b, c⟩ | z)
    · have e : ¬ k = n.toNatClampNeg := fun e => by
        have := (inB_iff.mp b).2
        rw [e, nI_ok hn.1, hu] at this
        exact hd this.symm
      refine ⟨k, a, inB_iff.mpr ⟨nI_ne1 (by omega), ?_⟩, ?_⟩
      · rw [e21 k (by omega), if_neg e]; exact (inB_iff.mp b).2
      · rw [e22 k (by omega), if_neg e]; exact c
    · refine ⟨n.toNatClampNeg, hl, inB_iff.mpr ⟨nI_ne1 (by omega), ?_⟩, ?_⟩
      · rw [e21 _ (by omega), if_pos rfl]
      · rw [e22 _ (by omega), if_pos rfl, z]
end ORD
/-- one notice of the order -/
theorem bbo_eq {σ : St} {pl : Pl} {d n : Int32} (h : Inv σ) (hn : okN σ n) (hd : okD d) (hnow : (σ 0 0).toInt ≤ d.toInt) (hp : PO (BS σ d (-1) (nn σ 23)) pl) :
    c_bbo σ pl n d = (if m_orC σ n d then m_find σ n d else none) ∧ Inv (c_bboS σ pl n d) ∧ PO (BS (c_bboS σ pl n d) d (-1) (nn σ 23)) (c_bboP σ pl n d) := by
  have hh := h
  obtain ⟨hI, h2, hK, h4, h5, h6, hKK, hO, hD, hF, h11, h12, hB⟩ := hh
  have hd1 : ¬ d = -1 := fun e => by
    have := hd.1
    rw [e] at this
    exact absurd this (by decide)
  have hpo : (gA σ 19 n).toInt ≤ d.toInt := by
    have h1 := (hD _ (okN_lt hn)).2
    have : (gA σ 19 n).toInt ≤ (σ 0 0).toInt := h1
    omega
  have hbd := barD_eq hI hF hO hn hd hpo
  have hbar : c_bar σ (gA σ 17 n) (gA σ 18 n) d = m_stands σ (gA σ 17 n) (gA σ 18 n) d := bar_eq hI hK hKK (one_ok hI hn) (oth_ok hI hn) (hD _ (okN_lt hn)).1
  have e1 : c_bbo σ pl n d = (if m_orC σ n d then m_find σ n d else none) ∧ (gA σ 21 n = -1 → okF σ n d (m_find σ n d)) := by
    unfold c_bbo m_orC
    rw [hbar]
    by_cases c1 : gA σ 21 n = -1
    · have hp2 := po_congr hp (fun x => bs_same hI hn c1 hd1)
      obtain ⟨f1, f2, f3⟩ := fiH_eq hI hB hd1 hp2 10 8 rfl (by omega)
      refine ⟨?_, fun _ => f1⟩
      rw [decide_eq_true c1]
      by_cases c2 : c_barD σ n d = 0
      · rw [decide_eq_true c2]
        have cs : decide (gA σ 20 n = 0) = true := by
          have z := hbd
          rw [c2] at z
          cases e : decide (gA σ 20 n = 0)
          · rw [e, Bool.not_false, if_pos rfl] at z; exact absurd z (by decide)
          · rfl
        rw [cs]
        by_cases c3 : m_stands σ (gA σ 17 n) (gA σ 18 n) d = 0
        · rw [decide_eq_true c3]
          have ef : c_free σ pl.1 pl.2 n = m_find σ n d := f2 c2 hbd
          rw [ef]
          simp only [Bool.not_true, Bool.or_self, Bool.false_eq_true, if_false, Bool.and_self, if_true]
          cases e : m_find σ n d with
          | none => rfl
          | some y =>
            have hy := (f1 y e).2.2
            show (if decide (y = -1) = true then none else some y) = some y
            rw [decide_eq_false hy]
            rfl
        · rw [decide_eq_false c3]
          simp only [Bool.not_true, Bool.not_false, Bool.or_self, Bool.false_eq_true, if_false, Bool.and_false, if_true]
      · rw [decide_eq_false c2]
        have hno : m_find σ n d = none := f3 (fun x => by
          rw [bars_wst]
          rw [hbd] at c2
          revert c2
          cases decide (gA σ 20 n = 0) <;> cases m_isFree σ d <;> cases m_isRipe σ n d <;> simp)
        rw [hno]
        simp only [Bool.not_true, Bool.not_false, Bool.or_true, if_true, ite_self]
    · refine ⟨?_, fun z => absurd z c1⟩
      rw [decide_eq_false c1]
      simp only [Bool.not_false, Bool.true_or, if_true, Bool.false_and, Bool.and_false, Bool.false_eq_true, if_false]
  refine ⟨e1.1, ?_⟩
  unfold c_bboS c_bboP
  cases e : c_bbo σ pl n d with
  | none => exact ⟨h, hp⟩
  | some x =>
    have e2 := e1.1
    rw [e] at e2
    cases ec : m_orC σ n d
    · rw [ec] at e2; cases e2
    · rw [ec, if_pos rfl] at e2
      have hu : gA σ 21 n = -1 := by
        unfold m_orC at ec
        simp only [Bool.and_eq_true, decide_eq_true_eq] at ec
        exact ec.2.1
      obtain ⟨f1, f2, -⟩ := e1.2 hu x e2.symm
      exact ⟨inv_bo h (invB_bo hI hB hn hd.1 f1 (bars_0 f2)), po_congr (po_take hp f1) (fun y => (bs_bo hI hn hu hd1).symm)⟩
theorem orL_eq {d : Int32} (hd : okD d) : ∀ (f k : Nat) (r : Int32) (σ : St) (pl : Pl), Inv σ → k + f = nn σ 23 → (σ 0 0).toInt ≤ d.toInt → PO (BS σ d (-1) (nn σ 23)) pl → k_orL d f k r σ pl = m_orL d f k r σ ∧ Inv (k_orL d f k r σ pl).2
  | 0, k, r, σ, pl, h, _, _, _ => ⟨rfl, h⟩
  | f + 1, k, r, σ, pl, h, hk, hn, hp => by
    have hI := h.1
    obtain ⟨b1, b2, b3⟩ := bbo_eq h (nI_okN hI (show k < nn σ 23 by omega)) hd hn hp
    have en : nn (c_bboS σ pl (nI k) d) 23 = nn σ 23 := bbo_n
    have ih := orL_eq hd f (k + 1) (if (c_bbo σ pl (nI k) d).isSome then r + 1 else r) (c_bboS σ pl (nI k) d) (c_bboP σ pl (nI k) d) b2 (by rw [en]; omega) (by rw [bboS_at (by omega)]; exact hn) (by rw [en]; exact b3)
    rw [k_orL, m_orL]
    refine ⟨ih.1.trans ?_, ih.2⟩
    unfold c_bboS
    rw [b1]
    cases m_orC σ (nI k) d
    · rfl
    · rw [if_pos rfl, if_pos rfl]
      unfold m_finS
      rfl
theorem order_eq {σ : St} {d : Int32} (h : Inv σ) : k_order σ d = m_order σ d ∧ Inv (k_order σ d).2 := by
  have hI := h.1
  unfold k_order m_order
  cases e : m_in d (σ 0 0) 20000
  · exact ⟨rfl, h⟩
  · rw [if_pos rfl, if_pos rfl]
    have hd := okD_now hI e
    have hd1 : ¬ d = -1 := fun z => by
      have := hd.1
      rw [z] at this
      exact absurd this (by decide)
    exact orL_eq hd (nn σ 23) 0 0 σ _ h (by omega) (m_in_iff.mp e).1 (fill_po hI h.2.2.2.2.2.2.2.2.2.2.2.2 hd1)
