/-! THE CLASS'S CALLS THAT CHANGE: the answer, and the numbers behind -/
/-- what lies behind the counts is 0 -/
def InvZ (σ : St) : Prop := (∀ i, nn σ 23 ≤ i → σ 20 i = 0) ∧ ∀ i, nn σ 26 ≤ i → σ 25 i = 0
def c_lcb (what notice : Int32) : Bool := !decide (what < 0) && (!decide (30 < what / 1000000) && (!decide (3 < rm (what / 100000) 10) && (!decide (7 < rm (what / 10000) 10) && (!decide (2 < rm (what / 1000) 10) && (!decide (rm what 1000 < 1) && (!decide (400 < rm what 1000) && (!decide (notice < 0) && !decide (30 < notice))))))))
def c_pcb (who : Int32) : Bool := !decide (who < 0) && (decide (who / 1000000 < 6) && (!decide (31 < rm (who / 10000) 100) && !decide (rm who 10000 < 1)))
def c_lawBad (σ : St) (land day what notice : Int32) : Bool := decide (land < 0) || (!decide (land < 6) || (!m_in day 0 20000 || (!c_lcb what notice || !decide (σ 2 0 < 60))))
def k_law (σ : St) (land day what notice : Int32) : Int32 × St := if c_lawBad σ land day what notice then (0, σ) else (1, m_lawS σ land day what notice)
def c_perBad (σ : St) (who born f mo : Int32) : Bool := !c_pcb who || (decide (born < -30000) || (decide (σ 0 0 < born) || (!decide (σ 11 0 < 40) || !c_cbp σ f mo)))
def k_perS (σ : St) (who born f mo : Int32) : St := sA (m_perS σ who born f mo) 94 (nn σ 11) 0
def k_person (σ : St) (who born f mo : Int32) : Int32 × St := if c_perBad σ who born f mo then (-1, σ) else (σ 11 0, k_perS σ who born f mo)
def c_papBad (σ : St) (p kind day : Int32) : Bool := !m_isP σ p || (decide (kind < 0) || (!decide (kind < 3) || (decide (day < 0) || (decide (σ 0 0 < day) || !decide (σ 15 0 < 200)))))
def k_papS (σ : St) (p kind day : Int32) : St := sA (sA (m_papS σ p kind day) (400 + p.toNatClampNeg) (gA σ 94 p).toNatClampNeg (σ 15 0)) 94 p.toNatClampNeg (gA σ 94 p + 1)
def k_paper (σ : St) (p kind day : Int32) : Int32 × St := if c_papBad σ p kind day then (0, σ) else (1, k_papS σ p kind day)
def k_feast (σ : St) (d : Int32) : Int32 × St := if !m_in d 0 20000 || !m_isFree σ d then (0, σ) else (1, sA σ 16 d.toNatClampNeg 1)
def k_go (σ : St) (n : Int32) : Int32 × St := if decide (n < 0) || decide (400 < n) then (-1, σ) else (m_min (σ 0 0 + n) 20000, sA σ 0 0 (m_min (σ 0 0 + n) 20000))
def c_postBad (σ : St) (a b : Int32) : Bool := !m_isP σ a || (!m_isP σ b || (decide (a = b) || (!decide (σ 23 0 < 60) || (!decide (gA σ 10 a = -1) || (!decide (gA σ 10 b = -1) || m_poL σ a b (nn σ 23) 0)))))
def k_postS (σ : St) (a b : Int32) : St := sA (m_postS σ a b) 93 (nn σ 23) 0
def k_post (σ : St) (a b : Int32) : Int32 × St := if c_postBad σ a b then (-1, σ) else (σ 23 0, k_postS σ a b)
def k_withdraw (σ : St) (n : Int32) : Int32 × St := if !m_isN σ n || !decide (gA σ 20 n = 0) then (0, σ) else (1, m_wdS σ n)
def c_objBad (σ : St) (n : Int32) : Bool := !m_isN σ n || (!decide (gA σ 20 n = 0) || (!decide (σ 26 0 < 60) || (!decide (m_ripe σ n = -1) && !decide (σ 0 0 < m_ripe σ n))))
def k_objS (σ : St) (n : Int32) : St := sA (m_objS σ n) 93 n.toNatClampNeg (gA σ 93 n + 1)
def k_object (σ : St) (n : Int32) : Int32 × St := if c_objBad σ n then (-1, σ) else (σ 26 0, k_objS σ n)
def c_jdBad (σ : St) (o : Int32) : Bool := decide (o < 0) || (!decide (o < σ 26 0) || !decide (gA σ 25 o = 0))
def k_jdS (σ : St) (o up : Int32) : St := if decide (up = 0) then sA (m_jdS σ o up) 93 (gA σ 24 o).toNatClampNeg (gA σ 93 (gA σ 24 o) - 1) else m_jdS σ o up
def k_judge (σ : St) (o up : Int32) : Int32 × St := if c_jdBad σ o then (0, σ) else (1, k_jdS σ o up)
def k_registrar (σ : St) (t : Int32) : Int32 × St := if decide (t < 0) || (decide (31 < t) || !decide (σ 28 0 < 6)) then (-1, σ) else (σ 28 0, m_reS σ t)
def k_part (σ : St) (p : Int32) : Int32 × St := if !m_isP σ p || decide (gA σ 10 p = -1) then (0, σ) else (1, m_paS σ p)
def c_coBad (σ : St) (e f v : Int32) : Bool := !m_in e 0 (σ 30 0 - 1) || (decide (f < 0) || (!decide (f < 5) || (decide (v < 0) || (decide (20000 < v) || !decide (σ 35 0 < 100)))))
def k_correct (σ : St) (e f v : Int32) : Int32 × St := if c_coBad σ e f v then (0, σ) else (1, m_coS σ e f v)
def c_weBad (σ : St) (n : Int32) : Bool := !m_isN σ n || (!decide (gA σ 20 n = 0) || (!decide (gA σ 21 n = σ 0 0) || (!decide (c_bar σ (gA σ 17 n) (gA σ 18 n) (σ 0 0) = 0) || !c_ripeOn σ n (σ 0 0))))
/-- the marriage, ahead of the entry -/
def k_we1 (σ : St) (n : Int32) : St := sA (sA (sA σ 20 n.toNatClampNeg 1) 10 (gA σ 17 n).toNatClampNeg (gA σ 18 n)) 10 (gA σ 18 n).toNatClampNeg (gA σ 17 n)
def k_enS (σ : St) (n : Int32) : St := sA (sA (sA (sA (sA (sA (sA (sA (sA σ (200 + nn σ 30) 0 (σ 0 0)) (200 + nn σ 30) 1 (gA σ 9 (gA σ 17 n))) (200 + nn σ 30) 2 (gA σ 9 (gA σ 18 n))) (200 + nn σ 30) 3 (rm (gA σ 22 n / 10) 10)) (200 + nn σ 30) 4 (rm (gA σ 22 n) 10)) (200 + nn σ 30) 5 (gA σ 17 n)) (200 + nn σ 30) 6 (gA σ 18 n)) (200 + nn σ 30) 7 n) 30 0 (σ 30 0 + 1)
def k_wed (σ : St) (n : Int32) : Int32 × St := if c_weBad σ n then (-1, σ) else (σ 30 0, k_enS (k_we1 σ n) n)
/-! the plan -/
abbrev Pl : Type := (Nat → Int32) × (Nat → Int32)
def c_take (pl : Pl) (x : Int32) : Pl := if decide (c_place (x / 100) (rm x 10) = -1) then pl else (upd pl.1 (x / 100 - 8).toNatClampNeg (pl.1 (x / 100 - 8).toNatClampNeg ||| (1 <<< (rm (x / 10) 10 &&& 31))), upd pl.2 (c_place (x / 100) (rm x 10)).toNatClampNeg (rm (x / 10) 10))
def c_fC (σ : St) (day lo k : Int32) : Bool := !decide (k = lo) && (!decide (gA σ 21 k = -1) && decide (gA σ 21 k = day))
def c_fiL (σ : St) (day lo : Int32) : Nat → Nat → Pl → Pl
  | 0, _, pl => pl
  | f + 1, k, pl => c_fiL σ day lo f (k + 1) (if c_fC σ day lo (nI k) then c_take pl (gA σ 22 (nI k)) else pl)
def pl0 : Pl := (fun _ => 0, fun _ => -1)
def c_fill (σ : St) (day lo : Int32) : Pl := c_fiL σ day lo (nn σ 23) 0 pl0
def k_bookB (σ : St) (n day x : Int32) : Int32 := if !decide (c_barD σ n day = 0) then c_barD σ n day else c_barS σ (c_fill σ day n).1 (c_fill σ day n).2 n x
def c_boBad (σ : St) (n day x : Int32) : Bool := !m_isN σ n || (!m_in day (σ 0 0) 20000 || !c_isSlot σ x)
def k_book (σ : St) (n day x : Int32) : Int32 × St := if c_boBad σ n day x then (-1, σ) else if decide (k_bookB σ n day x = 0) then (k_bookB σ n day x, m_boS σ n day x) else (k_bookB σ n day x, σ)
def c_bbo (σ : St) (pl : Pl) (n day : Int32) : Option Int32 := if !decide (gA σ 21 n = -1) || !decide (c_barD σ n day = 0) then none else if !decide (c_bar σ (gA σ 17 n) (gA σ 18 n) day = 0) then none else if decide (oI (c_free σ pl.1 pl.2 n) = -1) then none else some (oI (c_free σ pl.1 pl.2 n))
def c_bboS (σ : St) (pl : Pl) (n day : Int32) : St := match c_bbo σ pl n day with
  | some x => m_boS σ n day x
  | none => σ
def c_bboP (σ : St) (pl : Pl) (n day : Int32) : Pl := match c_bbo σ pl n day with
  | some x => c_take pl x
  | none => pl
def k_orL (day : Int32) : Nat → Nat → Int32 → St → Pl → Int32 × St
  | 0, _, r, σ, _ => (r, σ)
  | f + 1, n, r, σ, pl => k_orL day f (n + 1) (if (c_bbo σ pl (nI n) day).isSome then r + 1 else r) (c_bboS σ pl (nI n) day) (c_bboP σ pl (nI n) day)
def k_order (σ : St) (day : Int32) : Int32 × St := if m_in day (σ 0 0) 20000 then k_orL day (nn σ 23) 0 0 σ (c_fill σ day (-1)) else (-1, σ)
