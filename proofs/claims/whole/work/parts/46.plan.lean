/-! ROWS OF THE PLAN -/
theorem ia_congr {E : EV} {a n : Nat} {f g : Nat → Int32} {H : Heap} (h : ia E a n f H) (e : ∀ i, i < n → f i = g i) : ia E a n g H := by
  have h1 : H[a]? = some (vp_cell (E.2 0) (n, .inl f)) := h
  show H[a]? = some (vp_cell (E.2 0) (n, .inl g))
  rw [h1, vp_cell_i, vp_cell_i]
  unfold arrV
  congr 2
  congr 1
  funext j
  show Value.int (f j.val) = Value.int (g j.val)
  rw [e j.val j.isLt]
theorem up_step {g : Nat → Int32} {x : Int32} {k : Nat} (hg : ∀ i, i < k → g i = x) (hk : k < 2 ^ 31) : ∀ i, i < k + 1 → upd g (nI k).toNatClampNeg x i = x := by
  intro i hi
  rw [nI_clamp hk]
  by_cases e : i = k
  · subst e; rw [upd_eq]
  · rw [upd_ne e]; exact hg i (by omega)
theorem pl_in {h r : Int32} (hn : ¬ c_place h r = -1) : vp_in (h - 8) 10 := by
  obtain ⟨h1, h2, -⟩ := place_eq hn
  exact vi_of h1 (by omega)
theorem nI_ne1 {k : Nat} (h : k < 2 ^ 31) : ¬ nI k = -1 := fun e => by
  have h1 : (nI k).toInt = -1 := by rw [e]; rfl
  rw [nI_toInt h] at h1
  omega
theorem invL_of {σ τ : St} (h : InvL σ) (e : ∀ k, k = 2 ∨ (100 ≤ k ∧ k < 200) → τ k = σ k) (hn : nn σ 2 ≤ 60) : InvL τ := by
  intro i hi
  have e2 : nn τ 2 = nn σ 2 := by unfold nn; rw [e 2 (by omega)]
  rw [e2] at hi
  rw [e (100 + i) (by omega)]
  exact h i hi
theorem bo_at {σ : St} {n d x : Int32} {k : Nat} (h : k ≠ 21 ∧ k ≠ 22) : m_boS σ n d x k = σ k := by
  unfold m_boS
  rw [sA_ne h.2, sA_ne h.1]
theorem bboS_at {σ : St} {pl : Pl} {n d : Int32} {k : Nat} (h : k ≠ 21 ∧ k ≠ 22) : c_bboS σ pl n d k = σ k := by
  unfold c_bboS
  cases c_bbo σ pl n d with
  | none => rfl
  | some x => exact bo_at h
theorem bbo_M {σ : St} {pl : Pl} {n d : Int32} (h : InvM σ) : InvM (c_bboS σ pl n d) := invM_of h (fun k hk => bboS_at (by omega))
theorem bbo_P {σ : St} {pl : Pl} {n d : Int32} (h : InvP σ) : InvP (c_bboS σ pl n d) := invP_of h (fun k hk => bboS_at (by omega))
theorem bbo_L {σ : St} {pl : Pl} {n d : Int32} (hI : InvM σ) (h : InvL σ) : InvL (c_bboS σ pl n d) := invL_of h (fun k hk => bboS_at (by omega)) (cnt_le (N := 60) hI.1.2.1)
theorem bbo_n {σ : St} {pl : Pl} {n d : Int32} : nn (c_bboS σ pl n d) 23 = nn σ 23 := by unfold nn; rw [bboS_at (by omega)]
