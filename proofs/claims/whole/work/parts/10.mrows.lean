/-! ROWS OVER THE REFERENCE'S PICTURE -/
theorem vi_of {i : Int32} {n : Nat} (h1 : 0 ≤ i.toInt) (h2 : i.toInt < n) : vp_in i n := vp_in_iff.mpr ⟨h1, h2⟩
theorem i_lt (a b : Int32) : a < b ↔ a.toInt < b.toInt := Int32.lt_iff_toInt_lt
theorem i_le (a b : Int32) : a ≤ b ↔ a.toInt ≤ b.toInt := Int32.le_iff_toInt_le
theorem i_eq (a b : Int32) : a = b ↔ a.toInt = b.toInt := Int32.toInt_inj.symm
theorem i_rng (x : Int32) : -2147483648 ≤ x.toInt ∧ x.toInt < 2147483648 := by
  have h1 := Int32.le_toInt x
  have h2 := Int32.toInt_lt x
  omega
theorem i_sub {x y : Int32} (h1 : -2147483648 ≤ x.toInt - y.toInt) (h2 : x.toInt - y.toInt < 2147483648) : (x - y).toInt = x.toInt - y.toInt := by
  rw [Int32.toInt_sub]
  exact Int.bmod_eq_of_le (by omega) (by omega)
theorem i_add {x y : Int32} (h1 : -2147483648 ≤ x.toInt + y.toInt) (h2 : x.toInt + y.toInt < 2147483648) : (x + y).toInt = x.toInt + y.toInt := by
  rw [Int32.toInt_add]
  exact Int.bmod_eq_of_le (by omega) (by omega)
theorem i_clamp {x : Int32} (h : 0 ≤ x.toInt) : (x.toNatClampNeg : Int) = x.toInt := by
  show (x.toInt.toNat : Int) = x.toInt
  omega
theorem bI_1 {b : Bool} (h : b = true) : bI b = 1 := by rw [h]; rfl
theorem bI_0 {b : Bool} (h : b = false) : bI b = 0 := by rw [h]; rfl
theorem m_in_iff {v lo hi : Int32} : m_in v lo hi = true ↔ lo.toInt ≤ v.toInt ∧ v.toInt ≤ hi.toInt := by
  simp only [m_in, Bool.and_eq_true, Bool.not_eq_true', decide_eq_false_iff_not, i_lt]
  omega
theorem m_in_f {v lo hi : Int32} (h : m_in v lo hi = false) : v.toInt < lo.toInt ∨ hi.toInt < v.toInt := by
  rcases Int.lt_or_le v.toInt lo.toInt with a | a
  · exact Or.inl a
  · rcases Int.lt_or_le hi.toInt v.toInt with b | b
    · exact Or.inr b
    · rw [m_in_iff.mpr ⟨a, b⟩] at h; cases h
theorem cnt_pred {x : Int32} {n : Int} (h : bnd x n) : (x - 1).toInt = x.toInt - 1 := by
  have := i_rng x
  exact i_sub (by show _ ≤ x.toInt - 1; have := h.1; omega) (by show x.toInt - 1 < _; omega)
theorem isP_ok {σ : St} {p : Int32} (hI : InvM σ) (h : m_isP σ p = true) : okP σ p := by
  have h1 := m_in_iff.mp h
  rw [cnt_pred hI.1.2.2.1] at h1
  exact ⟨h1.1, by omega⟩
theorem okP_in {σ : St} {p : Int32} (hI : InvM σ) (h : okP σ p) : vp_in p 40 := vi_of h.1 (by have := hI.1.2.2.1.2; have := h.2; omega)
theorem okP_lt {σ : St} {p : Int32} (h : okP σ p) : p.toNatClampNeg < nn σ 11 := by
  have h1 := i_clamp h.1
  have h2 := i_clamp (x := σ 11 0) (by have := h.1; have := h.2; omega)
  have := h.2
  show p.toNatClampNeg < (σ 11 0).toNatClampNeg
  omega
def okN (σ : St) (n : Int32) : Prop := 0 ≤ n.toInt ∧ n.toInt < (σ 23 0).toInt
theorem isN_ok {σ : St} {p : Int32} (hI : InvM σ) (h : m_isN σ p = true) : okN σ p := by
  have h1 := m_in_iff.mp h
  rw [cnt_pred hI.1.2.2.2.2.1] at h1
  exact ⟨h1.1, by omega⟩
theorem okN_in {σ : St} {p : Int32} (hI : InvM σ) (h : okN σ p) : vp_in p 60 := vi_of h.1 (by have := hI.1.2.2.2.2.1.2; have := h.2; omega)
theorem okN_lt {σ : St} {p : Int32} (h : okN σ p) : p.toNatClampNeg < nn σ 23 := by
  have h1 := i_clamp h.1
  have h2 := i_clamp (x := σ 23 0) (by have := h.1; have := h.2; omega)
  have := h.2
  show p.toNatClampNeg < (σ 23 0).toNatClampNeg
  omega
/-- a count as a number of steps -/
theorem cnt_nI {σ : St} {k : Nat} {n : Int} (h : bnd (σ k 0) n) : σ k 0 = nI (nn σ k) := by
  have h1 := i_clamp h.1
  have h2 := i_rng (σ k 0)
  rw [i_eq, nI_toInt (by show (σ k 0).toNatClampNeg < _; omega)]
  exact h1.symm
theorem cnt_le {σ : St} {k N : Nat} (h : bnd (σ k 0) N) : nn σ k ≤ N := by
  have h1 := i_clamp h.1
  have := h.2
  show (σ k 0).toNatClampNeg ≤ N
  omega
section MROWS
variable {p : Program} {l : Launch} {e : Env} {R : Room} {s : State} {m : MethodId} {args : Array Value} {below : List Frame} {meth : Method} {c : Code} {H : Heap} {locs : List Loc} {cells slots : Nat} {Q : State → Prop} {E : EV}
variable {cc : ByteArray} {pc : Nat} {ls : Array Slot} {rest : List Value} {A : Nat → Prop} {a : Nat} {H0 : Heap} {σ : St} {M : Nat → Nat}
theorem onB {B : Bool} (k1 : B = true → W p l e R s m args below meth c H locs cells slots Q (F0 m pc ls (.int 1 :: rest))) (k0 : B = false → W p l e R s m args below meth c H locs cells slots Q (F0 m pc ls (.int 0 :: rest))) : W p l e R s m args below meth c H locs cells slots Q (F0 m pc ls (.int (bI B) :: rest)) := by
  cases B with
  | true => exact k1 rfl
  | false => exact k0 rfl
theorem mr_ld {t : Nat} {i : Int32} (hx : p.tables.exec = Jvm.exec) (hb : c.code = cc) (hE : evK E s) (hM : Md E A σ M H) (ht : mint t = true) (h3 : t ≠ 3) (hin : vp_in i (mlen t)) (hdg : decode cc pc = .ok (.iaload, 1))
    (kk : W p l e R s m args below meth c H locs cells slots Q (F0 m (pc + 1) ls (.int (gA σ t i) :: rest))) : W p l e R s m args below meth c H locs cells slots Q (F0 m pc ls (.int i :: .ref (M t) :: rest)) :=
  rd_iald hx hb hE (md_int hM t ht h3) hin hdg kk
theorem mr_lz {i : Int32} (hx : p.tables.exec = Jvm.exec) (hb : c.code = cc) (hE : evK E s) (hM : Md E A σ M H) (hin : vp_in i 20001) (hdg : decode cc pc = .ok (.baload, 1))
    (kk : W p l e R s m args below meth c H locs cells slots Q (F0 m (pc + 1) ls (.int (gA σ 16 i) :: rest))) : W p l e R s m args below meth c H locs cells slots Q (F0 m pc ls (.int i :: .ref (M 16) :: rest)) :=
  rd_zald hx hb hE (md_bool hM) hin hdg kk
theorem vi_lt {i : Int32} {n : Nat} (h : vp_in i n) : i.toNatClampNeg < n := Nat.not_le.mp fun q => h (Or.inr q)
theorem mr_rl {i : Int32} (hx : p.tables.exec = Jvm.exec) (hb : c.code = cc) (hE : evK E s) (hM : Md E A σ M H) (hin : vp_in i 60) (hdg : decode cc pc = .ok (.aaload, 1))
    (kk : W p l e R s m args below meth c H locs cells slots Q (F0 m (pc + 1) ls (.ref (M (100 + i.toNatClampNeg)) :: rest))) : W p l e R s m args below meth c H locs cells slots Q (F0 m pc ls (.int i :: .ref (M 1) :: rest)) :=
  rd_rald hx hb hE (md_laws hM) hin (if_pos (vi_lt hin)) hdg kk
theorem mr_re {i : Int32} (hx : p.tables.exec = Jvm.exec) (hb : c.code = cc) (hE : evK E s) (hM : Md E A σ M H) (hin : vp_in i 60) (hdg : decode cc pc = .ok (.aaload, 1))
    (kk : W p l e R s m args below meth c H locs cells slots Q (F0 m (pc + 1) ls (.ref (M (200 + i.toNatClampNeg)) :: rest))) : W p l e R s m args below meth c H locs cells slots Q (F0 m pc ls (.int i :: .ref (M 29) :: rest)) :=
  rd_rald hx hb hE (md_ents hM) hin (if_pos (vi_lt hin)) hdg kk
theorem mint_l {i : Nat} (h : i < 60) : mint (100 + i) = true ∧ 100 + i ≠ 3 ∧ mlen (100 + i) = 8 := by
  refine ⟨?_, by omega, ?_⟩
  · simp only [mint, Bool.or_eq_true, Bool.and_eq_true, decide_eq_true_eq, beq_iff_eq]; omega
  · simp only [mlen]; rw [if_neg (by omega), if_neg (by omega), if_neg (by omega), if_neg (by omega), if_neg (by omega)]
theorem mint_e {i : Nat} (h : i < 60) : mint (200 + i) = true ∧ 200 + i ≠ 3 ∧ mlen (200 + i) = 8 := by
  refine ⟨?_, by omega, ?_⟩
  · simp only [mint, Bool.or_eq_true, Bool.and_eq_true, decide_eq_true_eq, beq_iff_eq]; omega
  · simp only [mlen]; rw [if_neg (by omega), if_neg (by omega), if_neg (by omega), if_neg (by omega), if_neg (by omega)]
/-- a row's place -/
theorem mr_ldl {i j : Int32} {jn : Nat} (hx : p.tables.exec = Jvm.exec) (hb : c.code = cc) (hE : evK E s) (hM : Md E A σ M H) (hin : vp_in i 60) (hj : vp_in j 8) (hjn : j.toNatClampNeg = jn) (hdg : decode cc pc = .ok (.iaload, 1))
    (kk : W p l e R s m args below meth c H locs cells slots Q (F0 m (pc + 1) ls (.int (gR σ 100 i jn) :: rest))) : W p l e R s m args below meth c H locs cells slots Q (F0 m pc ls (.int j :: .ref (M (100 + i.toNatClampNeg)) :: rest)) := by
  subst hjn
  obtain ⟨g1, g2, g3⟩ := mint_l (vi_lt hin)
  have h := md_int hM _ g1 g2
  rw [g3] at h
  exact rd_iald hx hb hE h hj hdg kk
theorem mr_lde {i j : Int32} {jn : Nat} (hx : p.tables.exec = Jvm.exec) (hb : c.code = cc) (hE : evK E s) (hM : Md E A σ M H) (hin : vp_in i 60) (hj : vp_in j 8) (hjn : j.toNatClampNeg = jn) (hdg : decode cc pc = .ok (.iaload, 1))
    (kk : W p l e R s m args below meth c H locs cells slots Q (F0 m (pc + 1) ls (.int (gR σ 200 i jn) :: rest))) : W p l e R s m args below meth c H locs cells slots Q (F0 m pc ls (.int j :: .ref (M (200 + i.toNatClampNeg)) :: rest)) := by
  subst hjn
  obtain ⟨g1, g2, g3⟩ := mint_e (vi_lt hin)
  have h := md_int hM _ g1 g2
  rw [g3] at h
  exact rd_iald hx hb hE h hj hdg kk
theorem mr_st {t : Nat} {i x : Int32} (hx : p.tables.exec = Jvm.exec) (hb : c.code = cc) (hE : evK E s) (hS : va_S A H0 H locs) (hM : Md E A σ M H) (ht : mint t = true) (h3 : t ≠ 3) (hin : vp_in i (mlen t)) (hdg : decode cc pc = .ok (.iastore, 1))
    (kk : ∀ (H1 : Heap) (locs1 : List Loc), Md E A (sA σ t i.toNatClampNeg x) M H1 → va_S A H0 H1 locs1 → W p l e R s m args below meth c H1 locs1 cells slots Q (F0 m (pc + 1) ls rest)) : W p l e R s m args below meth c H locs cells slots Q (F0 m pc ls (.int x :: .int i :: .ref (M t) :: rest)) :=
  wr_iast hx hb hE hS (md_A hM t (mint_val ht)) (md_int hM t ht h3) hin hdg (fun H1 locs1 h1 _ h3' h4 => kk H1 locs1 (md_ast hM ht h3 h1 h3') h4)
theorem mr_stz {i x : Int32} (hx : p.tables.exec = Jvm.exec) (hb : c.code = cc) (hE : evK E s) (hS : va_S A H0 H locs) (hM : Md E A σ M H) (hin : vp_in i 20001) (hdg : decode cc pc = .ok (.bastore, 1))
    (kk : ∀ (H1 : Heap) (locs1 : List Loc), Md E A (sA σ 16 i.toNatClampNeg (vp_nar .boolean x)) M H1 → va_S A H0 H1 locs1 → W p l e R s m args below meth c H1 locs1 cells slots Q (F0 m (pc + 1) ls rest)) : W p l e R s m args below meth c H locs cells slots Q (F0 m pc ls (.int x :: .int i :: .ref (M 16) :: rest)) :=
  wr_zast hx hb hE hS (md_A hM 16 rfl) (md_bool hM) hin hdg (fun H1 locs1 h1 _ h3' h4 => kk H1 locs1 (md_zst hM h1 h3') h4)
theorem mr_stl {r : Nat} {j x : Int32} {jn : Nat} (hx : p.tables.exec = Jvm.exec) (hb : c.code = cc) (hE : evK E s) (hS : va_S A H0 H locs) (hM : Md E A σ M H) (hr : mint r = true ∧ r ≠ 3 ∧ mlen r = 8) (hj : vp_in j 8) (hjn : j.toNatClampNeg = jn) (hdg : decode cc pc = .ok (.iastore, 1))
    (kk : ∀ (H1 : Heap) (locs1 : List Loc), Md E A (sA σ r jn x) M H1 → va_S A H0 H1 locs1 → W p l e R s m args below meth c H1 locs1 cells slots Q (F0 m (pc + 1) ls rest)) : W p l e R s m args below meth c H locs cells slots Q (F0 m pc ls (.int x :: .int j :: .ref (M r) :: rest)) := by
  subst hjn
  exact mr_st hx hb hE hS hM hr.1 hr.2.1 (by rw [hr.2.2]; exact hj) hdg kk
theorem mr_put {own : String} {index k : Nat} {x : Int32} (hx : p.tables.exec = Jvm.exec) (hb : c.code = cc) (hown : s.vm.findClass own = some m.cls) (hu : ∀ w ∈ uw, w.before args s = true) (hE : evK E s) (hS : va_S A H0 H locs) (hM : Md E A σ M H) (hk : mscal k = true) (hk2 : k < 36) (hl : Cond.fieldLink own index "WeddingRegisterModel" (TX11 k).2.1 (TX11 k).2.2.1 ∈ uw) (hs : (TX11 k).1 = "WeddingRegisterModel") (hfin : (TX11 k).2.2.2 = false) (hty : tyX11 k = .int) (hdg : decode cc pc = .ok (.putfield index, 3))
    (kk : ∀ (H1 : Heap) (locs1 : List Loc), Md E A (sA σ k 0 x) M H1 → va_S A H0 H1 locs1 → W p l e R s m args below meth c H1 locs1 cells slots Q (F0 m (pc + 3) ls rest)) : W p l e R s m args below meth c H locs cells slots Q (F0 m pc ls (.int x :: .ref (M 0) :: rest)) :=
  wr_put hx hb hown hu hE ok12 hS (md_A hM 0 rfl) (md_obj hM) hk2 hl (Or.inl hs) hfin (by rw [hty]; rfl) (by rw [hty]; rfl) (by show k < 36; exact hk2) hdg (fun H1 locs1 h1 _ h3' h4 => kk H1 locs1 (md_put hM hk h1 h3') h4)
end MROWS
