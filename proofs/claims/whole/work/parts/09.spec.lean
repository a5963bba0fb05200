/-! THE REFERENCE'S METHODS as functions of its numbers, word for word as its code has them -/
abbrev rm (x y : Int32) : Int32 := x - x / y * y
def gA (σ : St) (t : Nat) (i : Int32) : Int32 := σ t i.toNatClampNeg
def gR (σ : St) (b : Nat) (i : Int32) (j : Nat) : Int32 := σ (b + i.toNatClampNeg) j
def bI (b : Bool) : Int32 := if b then 1 else 0
def nn (σ : St) (k : Nat) : Nat := (σ k 0).toNatClampNeg
def m_in (v lo hi : Int32) : Bool := !decide (v < lo) && !decide (hi < v)
def m_isP (σ : St) (p : Int32) : Bool := m_in p 0 (σ 11 0 - 1)
def m_isN (σ : St) (n : Int32) : Bool := m_in n 0 (σ 23 0 - 1)
def m_lawBad (σ : St) (land day what notice : Int32) : Bool := !m_in land 0 5 || !m_in day 0 20000 || decide (what < 0) || decide (30 < what / 1000000) || decide (3 < rm (what / 100000) 10) || decide (7 < rm (what / 10000) 10) || decide (2 < rm (what / 1000) 10) || !m_in (rm what 1000) 1 400 || !m_in notice 0 30 || decide (σ 2 0 = 60)
def m_lawS (σ : St) (land day what notice : Int32) : St :=
  sA (sA (sA (sA (sA (sA (sA (sA (sA σ (100 + nn σ 2) 0 land) (100 + nn σ 2) 1 day) (100 + nn σ 2) 2 (what / 1000000)) (100 + nn σ 2) 3 (rm (what / 100000) 10)) (100 + nn σ 2) 4 (rm (what / 10000) 10)) (100 + nn σ 2) 5 (rm what 1000)) (100 + nn σ 2) 6 notice) (100 + nn σ 2) 7 (rm (what / 1000) 10)) 2 0 (σ 2 0 + 1)
def m_ifC (σ : St) (land day : Int32) (k b : Int32) : Bool := decide (gR σ 100 k 0 = land) && (!decide (day < gR σ 100 k 1) && (decide (b = -1) || !decide (gR σ 100 k 1 < gR σ 100 b 1)))
def m_ifL (σ : St) (land day : Int32) : Nat → Nat → Int32 → Int32
  | 0, _, b => b
  | f + 1, k, b => m_ifL σ land day f (k + 1) (if m_ifC σ land day (nI k) b then nI k else b)
def m_best (σ : St) (land day : Int32) : Int32 := m_ifL σ land day (nn σ 2) 0 (-1)
def m_def (w : Nat) : Int32 := if w = 5 then 1 else 0
def m_ask (σ : St) (land day : Int32) (w : Nat) : Int32 := if decide (m_best σ land day = -1) then m_def w else gR σ 100 (m_best σ land day) w
def m_asks (σ : St) (p day : Int32) (w : Nat) : Int32 := m_ask σ (gA σ 4 p) day w
def m_perBad (σ : St) (who born f mo : Int32) : Bool := decide (who < 0) || !decide (who / 1000000 < 6) || decide (31 < rm (who / 10000) 100) || decide (rm who 10000 < 1) || !m_in born (-30000) (σ 0 0) || (!decide (f = -1) && !m_isP σ f) || (!decide (mo = -1) && !m_isP σ mo)
def m_perBad2 (σ : St) (f mo : Int32) : Bool := (!decide (f = -1) && decide (f = mo)) || decide (σ 11 0 = 40)
def m_perS (σ : St) (who born f mo : Int32) : St :=
  sA (sA (sA (sA (sA (sA (sA (sA σ 4 (nn σ 11) (who / 1000000)) 8 (nn σ 11) (rm (who / 10000) 100)) 9 (nn σ 11) (rm who 10000)) 5 (nn σ 11) born) 6 (nn σ 11) f) 7 (nn σ 11) mo) 10 (nn σ 11) (-1)) 11 0 (σ 11 0 + 1)
def m_papBad (σ : St) (p kind day : Int32) : Bool := !m_isP σ p || !m_in kind 0 2 || !m_in day 0 (σ 0 0) || decide (σ 15 0 = 200)
def m_papS (σ : St) (p kind day : Int32) : St := sA (sA (sA (sA σ 12 (nn σ 15) p) 13 (nn σ 15) kind) 14 (nn σ 15) day) 15 0 (σ 15 0 + 1)
def m_hpC (σ : St) (p kind day k : Int32) : Bool := decide (gA σ 12 k = p) && (decide (gA σ 13 k = kind) && (!decide (day < gA σ 14 k) && decide (day - gA σ 14 k < m_asks σ p day 5)))
def m_hpL (σ : St) (p kind day : Int32) : Nat → Nat → Bool
  | 0, _ => false
  | f + 1, k => if m_hpC σ p kind day (nI k) then true else m_hpL σ p kind day f (k + 1)
def m_hasPaper (σ : St) (p kind day : Int32) : Bool := m_hpL σ p kind day (nn σ 15) 0
def m_isFree (σ : St) (d : Int32) : Bool := !decide (rm d 7 = 6) && decide (gA σ 16 d = 0)
def m_isParent (σ : St) (p c : Int32) : Bool := !decide (p = -1) && (decide (gA σ 6 c = p) || decide (gA σ 7 c = p))
def m_share (σ : St) (a b : Int32) : Bool := !decide (a = b) && ((!decide (gA σ 6 a = -1) && decide (gA σ 6 a = gA σ 6 b)) || (!decide (gA σ 7 a = -1) && decide (gA σ 7 a = gA σ 7 b)))
def m_parent (σ : St) (p which : Int32) : Int32 := if decide (which = 0) then gA σ 6 p else gA σ 7 p
def m_k1 (σ : St) (a b : Int32) : Bool := m_isParent σ a b || m_isParent σ b a || m_share σ a b
def m_k2 (σ : St) (p b : Int32) : Bool := !decide (p = -1) && (m_share σ p b || m_isParent σ b p)
def m_k3 (σ : St) (p q : Int32) : Bool := !decide (q = -1) && m_share σ p q
def m_kiL (σ : St) (p b : Int32) : Nat → Nat → Int32 → Int32
  | 0, _, kin => kin
  | f + 1, k, kin => if decide (p = -1) then kin else m_kiL σ p b f (k + 1) (if m_k3 σ p (m_parent σ b (nI k)) then 3 else kin)
def m_koL (σ : St) (a b : Int32) : Nat → Nat → Int32 → Int32
  | 0, _, kin => kin
  | f + 1, i, kin => if m_k2 σ (m_parent σ a (nI i)) b then 2 else if m_k2 σ (m_parent σ b (nI i)) a then 2 else m_koL σ a b f (i + 1) (m_kiL σ (m_parent σ a (nI i)) b 2 0 kin)
def m_kinOf (σ : St) (a b : Int32) : Int32 := if m_k1 σ a b then 1 else m_koL σ a b 2 0 0
def m_kin (σ : St) (a b : Int32) : Int32 := if m_isP σ a && (m_isP σ b && !decide (a = b)) then m_kinOf σ a b else -1
def m_isYoung (σ : St) (p day : Int32) : Bool := decide (day - gA σ 5 p < 365 * m_asks σ p day 2)
def m_wants (σ : St) (p day k : Int32) : Bool := decide ((m_asks σ p day 4 >>> (k &&& 31)) &&& 1 = 1)
def m_laL (σ : St) (p day : Int32) : Nat → Nat → Bool
  | 0, _ => false
  | f + 1, k => if m_wants σ p day (nI k) && !m_hasPaper σ p (nI k) day then true else m_laL σ p day f (k + 1)
def m_lacks (σ : St) (p day : Int32) : Bool := m_laL σ p day 3 0
def m_stands (σ : St) (a b day : Int32) : Int32 :=
  if !decide (gA σ 10 a = -1) || !decide (gA σ 10 b = -1) then 1
  else if m_isYoung σ a day || m_isYoung σ b day then 2
  else if decide (0 < m_kinOf σ a b) && (!decide (m_asks σ a day 3 < m_kinOf σ a b) || !decide (m_asks σ b day 3 < m_kinOf σ a b)) then 3
  else if m_lacks σ a day || m_lacks σ b day then 4 else 0
def m_against (σ : St) (a b day : Int32) : Int32 := if m_isP σ a && (m_isP σ b && (!decide (a = b) && m_in day 0 20000)) then m_stands σ a b day else -1
def m_postBad (σ : St) (a b : Int32) : Bool := !m_isP σ a || !m_isP σ b || decide (a = b) || !decide (gA σ 10 a = -1) || !decide (gA σ 10 b = -1) || decide (σ 23 0 = 60)
def m_poC (σ : St) (a b k : Int32) : Bool := decide (gA σ 20 k = 0) && ((decide (gA σ 17 k = a) && decide (gA σ 18 k = b)) || (decide (gA σ 17 k = b) && decide (gA σ 18 k = a)))
def m_poL (σ : St) (a b : Int32) : Nat → Nat → Bool
  | 0, _ => false
  | f + 1, k => if m_poC σ a b (nI k) then true else m_poL σ a b f (k + 1)
def m_postS (σ : St) (a b : Int32) : St := sA (sA (sA (sA (sA (sA σ 17 (nn σ 23) a) 18 (nn σ 23) b) 19 (nn σ 23) (σ 0 0)) 21 (nn σ 23) (-1)) 22 (nn σ 23) (-1)) 23 0 (σ 23 0 + 1)
def m_wdBad (σ : St) (n : Int32) : Bool := !m_isN σ n || !decide (gA σ 20 n = 0)
def m_wdS (σ : St) (n : Int32) : St := sA (sA (sA σ 20 n.toNatClampNeg 2) 21 n.toNatClampNeg (-1)) 22 n.toNatClampNeg (-1)
/-- the free days d, d + 1 .. of f days, added to many -/
def m_huL (σ : St) : Nat → Nat → Int32 → Int32
  | 0, _, r => r
  | f + 1, d, r => m_huL σ f (d + 1) (r + bI (m_isFree σ (nI d)))
/-- days posted + 1 .. day - 1, as numbers -/
def m_hung (σ : St) (n day : Int32) : Int32 := m_huL σ (day.toNatClampNeg - ((gA σ 19 n).toNatClampNeg + 1)) ((gA σ 19 n).toNatClampNeg + 1) 0
def m_max (a b : Int32) : Int32 := if a < b then b else a
def m_min (a b : Int32) : Int32 := if b < a then b else a
def m_wanted (σ : St) (n day : Int32) : Int32 := m_max (m_asks σ (gA σ 17 n) day 6) (m_asks σ (gA σ 18 n) day 6)
def m_riL (σ : St) (n : Int32) : Nat → Nat → Int32 → Int32
  | 0, _, _ => -1
  | f + 1, d, has => if !decide (has < m_wanted σ n (nI d)) then nI d else m_riL σ n f (d + 1) (if decide (gA σ 19 n < nI d) && m_isFree σ (nI d) then has + 1 else has)
def m_ripe (σ : St) (n : Int32) : Int32 := m_riL σ n (20001 - (gA σ 19 n).toNatClampNeg) (gA σ 19 n).toNatClampNeg 0
def m_obL (σ : St) (n : Int32) : Nat → Nat → Int32 → Int32
  | 0, _, r => r
  | f + 1, k, r => m_obL σ n f (k + 1) (r + bI (decide (gA σ 24 (nI k) = n) && decide (gA σ 25 (nI k) < 2)))
def m_objd (σ : St) (n : Int32) : Int32 := m_obL σ n (nn σ 26) 0 0
def m_isRipe (σ : St) (n day : Int32) : Bool := !decide (m_hung σ n day < m_wanted σ n day) && decide (m_objd σ n = 0)
def m_objBad (σ : St) (n : Int32) : Bool := !m_isN σ n || !decide (gA σ 20 n = 0) || decide (σ 26 0 = 60)
def m_objLate (σ : St) (n : Int32) : Bool := !decide (m_ripe σ n = -1) && !decide (σ 0 0 < m_ripe σ n)
def m_objS (σ : St) (n : Int32) : St := sA (sA σ 24 (nn σ 26) n) 26 0 (σ 26 0 + 1)
def m_jdBad (σ : St) (o : Int32) : Bool := !m_in o 0 (σ 26 0 - 1) || !decide (gA σ 25 o = 0)
def m_jdS (σ : St) (o up : Int32) : St := sA σ 25 o.toNatClampNeg (if decide (up = 0) then 2 else 1)
def m_reBad (σ : St) (t : Int32) : Bool := !m_in t 0 31 || decide (σ 28 0 = 6)
def m_reS (σ : St) (t : Int32) : St := sA (sA σ 27 (nn σ 28) t) 28 0 (σ 28 0 + 1)
/-- what the booking of notice k adds to the worst -/
def m_bA (σ : St) (hour hall k w : Int32) : Int32 := if decide (gA σ 22 k / 100 = hour) && decide (rm (gA σ 22 k / 10) 10 = hall) then m_min w 4 else w
def m_bB (σ : St) (hour reg k w : Int32) : Int32 := if decide (gA σ 22 k / 100 = hour) && decide (rm (gA σ 22 k) 10 = reg) then m_min w 5 else w
def m_bC (σ : St) (hour hall reg k w : Int32) : Int32 := if (decide (gA σ 22 k / 100 = hour - 1) || decide (gA σ 22 k / 100 = hour + 1)) && (decide (rm (gA σ 22 k) 10 = reg) && !decide (rm (gA σ 22 k / 10) 10 = hall)) then m_min w 6 else w
def m_b1 (σ : St) (hour hall reg k w : Int32) : Int32 := m_bC σ hour hall reg k (m_bB σ hour reg k (m_bA σ hour hall k w))
def m_baL (σ : St) (n day hour hall reg : Int32) : Nat → Nat → Int32 → Int32
  | 0, _, w => w
  | f + 1, k, w => m_baL σ n day hour hall reg f (k + 1) (if decide (nI k = n) || !decide (gA σ 21 (nI k) = day) then w else m_b1 σ hour hall reg (nI k) w)
def m_dumb (σ : St) (n reg : Int32) : Bool := decide (gA σ 27 reg &&& gA σ 8 (gA σ 17 n) = 0) || decide (gA σ 27 reg &&& gA σ 8 (gA σ 18 n) = 0)
def m_worst (σ : St) (n day hour hall reg : Int32) : Int32 := if m_dumb σ n reg then m_min (m_baL σ n day hour hall reg (nn σ 23) 0 8) 7 else m_baL σ n day hour hall reg (nn σ 23) 0 8
def m_bars (σ : St) (n day hour hall reg : Int32) : Int32 :=
  if !decide (gA σ 20 n = 0) then 1 else if !m_isFree σ day then 2 else if !m_isRipe σ n day then 3
  else if decide (m_worst σ n day hour hall reg = 8) then 0 else m_worst σ n day hour hall reg
def m_boBad (σ : St) (n day wh : Int32) : Bool := !m_isN σ n || decide (wh < 0) || !m_in (wh / 100) 8 17 || decide (3 < rm (wh / 10) 10) || !decide (rm wh 10 < σ 28 0) || !m_in day (σ 0 0) 20000
def m_boS (σ : St) (n day wh : Int32) : St := sA (sA σ 21 n.toNatClampNeg day) 22 n.toNatClampNeg wh
def m_book (σ : St) (n day wh : Int32) : Int32 := if m_boBad σ n day wh then -1 else m_bars σ n day (wh / 100) (rm (wh / 10) 10) (rm wh 10)
def m_fiR (σ : St) (n day : Int32) (h w : Nat) : Nat → Nat → Option Int32
  | 0, _ => none
  | f + 1, r => if decide (0 < m_bars σ n day (nI h) (nI w) (nI r)) then m_fiR σ n day h w f (r + 1) else some (100 * nI h + 10 * nI w + nI r)
def m_fiW (σ : St) (n day : Int32) (h : Nat) : Nat → Nat → Option Int32
  | 0, _ => none
  | f + 1, w => match m_fiR σ n day h w (nn σ 28) 0 with
    | some x => some x
    | none => m_fiW σ n day h f (w + 1)
def m_fiH (σ : St) (n day : Int32) : Nat → Nat → Option Int32
  | 0, _ => none
  | f + 1, h => match m_fiW σ n day h 4 0 with
    | some x => some x
    | none => m_fiH σ n day f (h + 1)
def m_find (σ : St) (n day : Int32) : Option Int32 := m_fiH σ n day 10 8
def m_finS (σ : St) (n day : Int32) : St := match m_find σ n day with
  | some x => m_boS σ n day x
  | none => σ
def m_orC (σ : St) (n day : Int32) : Bool := decide (gA σ 20 n = 0) && (decide (gA σ 21 n = -1) && decide (m_stands σ (gA σ 17 n) (gA σ 18 n) day = 0))
def m_orL (day : Int32) : Nat → Nat → Int32 → St → Int32 × St
  | 0, _, r, σ => (r, σ)
  | f + 1, n, r, σ => if m_orC σ (nI n) day then m_orL day f (n + 1) (if (m_find σ (nI n) day).isSome then r + 1 else r) (m_finS σ (nI n) day) else m_orL day f (n + 1) r σ
def m_order (σ : St) (day : Int32) : Int32 × St := if m_in day (σ 0 0) 20000 then m_orL day (nn σ 23) 0 0 σ else (-1, σ)
def m_weBad (σ : St) (n : Int32) : Bool := !m_isN σ n || !decide (gA σ 20 n = 0) || !decide (gA σ 21 n = σ 0 0) || !decide (m_stands σ (gA σ 17 n) (gA σ 18 n) (σ 0 0) = 0) || !m_isRipe σ n (σ 0 0) || decide (σ 30 0 = 60)
def m_weS (σ : St) (n : Int32) : St :=
  sA (sA (sA (sA (sA (sA (sA (sA (sA (sA (sA (sA σ 10 (gA σ 17 n).toNatClampNeg (gA σ 18 n)) 10 (gA σ 18 n).toNatClampNeg (gA σ 17 n)) 20 n.toNatClampNeg 1) (200 + nn σ 30) 0 (σ 0 0)) (200 + nn σ 30) 1 (gA σ 9 (gA σ 17 n))) (200 + nn σ 30) 2 (gA σ 9 (gA σ 18 n))) (200 + nn σ 30) 3 (rm (gA σ 22 n / 10) 10)) (200 + nn σ 30) 4 (rm (gA σ 22 n) 10)) (200 + nn σ 30) 5 (gA σ 17 n)) (200 + nn σ 30) 6 (gA σ 18 n)) (200 + nn σ 30) 7 n) 30 0 (σ 30 0 + 1)
def m_paBad (σ : St) (p : Int32) : Bool := !m_isP σ p || decide (gA σ 10 p = -1)
def m_paS (σ : St) (p : Int32) : St := sA (sA σ 10 (gA σ 10 p).toNatClampNeg (-1)) 10 p.toNatClampNeg (-1)
def m_coBad (σ : St) (e f v : Int32) : Bool := !m_in e 0 (σ 30 0 - 1) || !m_in f 0 4 || !m_in v 0 20000 || decide (σ 35 0 = 100)
def m_coS (σ : St) (e f v : Int32) : St := sA (sA (sA (sA (sA σ 31 (nn σ 35) e) 32 (nn σ 35) f) 33 (nn σ 35) v) 34 (nn σ 35) (σ 0 0)) 35 0 (σ 35 0 + 1)
def m_enBad (σ : St) (e f day : Int32) : Bool := !m_in e 0 (σ 30 0 - 1) || !m_in f 0 7 || !m_in day (gR σ 200 e 0) (σ 0 0)
def m_enC (σ : St) (e f day k : Int32) : Bool := decide (gA σ 31 k = e) && (decide (gA σ 32 k = f) && !decide (day < gA σ 34 k))
def m_enL (σ : St) (e f day : Int32) : Nat → Nat → Int32 → Int32
  | 0, _, v => v
  | n + 1, k, v => m_enL σ e f day n (k + 1) (if m_enC σ e f day (nI k) then gA σ 33 (nI k) else v)
def m_entry (σ : St) (e f day : Int32) : Int32 := if m_enBad σ e f day then -1 else m_enL σ e f day (nn σ 35) 0 (gR σ 200 e f.toNatClampNeg)
def m_how (σ : St) (e by_ : Int32) : Int32 := m_asks σ (gR σ 200 e (5 + by_).toNatClampNeg) (gR σ 200 e 0) 7
def m_nameOf (σ : St) (e which by_ : Int32) : Int32 := if decide (m_how σ e by_ = 0) then gR σ 200 e (1 + which).toNatClampNeg else if decide (m_how σ e by_ = 1) then gR σ 200 e 1 else 10000 * gR σ 200 e 1 + gR σ 200 e 2
def m_name (σ : St) (e which by_ : Int32) : Int32 := if m_in e 0 (σ 30 0 - 1) && (m_in which 0 1 && m_in by_ 0 1) then m_nameOf σ e which by_ else -1
def m_quarrel (σ : St) (e : Int32) : Bool := m_in e 0 (σ 30 0 - 1) && (!decide (m_nameOf σ e 0 0 = m_nameOf σ e 0 1) || !decide (m_nameOf σ e 1 0 = m_nameOf σ e 1 1))
def m_told (σ : St) (n what : Int32) : Int32 := if !m_isN σ n then -1 else if decide (what = 0) then gA σ 20 n else if decide (what = 1) then gA σ 19 n else if decide (what = 2) then m_objd σ n else if decide (what = 3) then gA σ 21 n else if decide (what = 4) then gA σ 22 n else -1
def m_married (σ : St) (p : Int32) : Int32 := if m_isP σ p then gA σ 10 p else -1
def m_opL (σ : St) : Nat → Nat → Int32 → Int32
  | 0, _, r => r
  | f + 1, k, r => m_opL σ f (k + 1) (r + bI (decide (gA σ 20 (nI k) = 0) && !decide (gA σ 21 (nI k) = -1)))
def m_count (σ : St) (what : Int32) : Int32 := if decide (what = 0) then σ 0 0 else if decide (what = 1) then σ 11 0 else if decide (what = 2) then σ 23 0 else if decide (what = 3) then σ 30 0 else if decide (what = 4) then σ 26 0 else if decide (what = 5) then m_opL σ (nn σ 23) 0 0 else -1
/-! the calls: the answer, and the numbers behind -/
def m_law (σ : St) (land day what notice : Int32) : Int32 × St := if m_lawBad σ land day what notice then (0, σ) else (1, m_lawS σ land day what notice)
def m_person (σ : St) (who born f mo : Int32) : Int32 × St := if m_perBad σ who born f mo || m_perBad2 σ f mo then (-1, σ) else (σ 11 0 + 1 - 1, m_perS σ who born f mo)
def m_paper (σ : St) (p kind day : Int32) : Int32 × St := if m_papBad σ p kind day then (0, σ) else (1, m_papS σ p kind day)
def m_feast (σ : St) (d : Int32) : Int32 × St := if !m_in d 0 20000 || !m_isFree σ d then (0, σ) else (1, sA σ 16 d.toNatClampNeg 1)
def m_go (σ : St) (n : Int32) : Int32 × St := if !m_in n 0 400 then (-1, σ) else (m_min 20000 (σ 0 0 + n), sA σ 0 0 (m_min 20000 (σ 0 0 + n)))
def m_post (σ : St) (a b : Int32) : Int32 × St := if m_postBad σ a b || m_poL σ a b (nn σ 23) 0 then (-1, σ) else (σ 23 0 + 1 - 1, m_postS σ a b)
def m_withdraw (σ : St) (n : Int32) : Int32 × St := if m_wdBad σ n then (0, σ) else (1, m_wdS σ n)
def m_hungA (σ : St) (n day : Int32) : Int32 := if m_isN σ n && m_in day 0 20000 then m_hung σ n day else -1
def m_ripeA (σ : St) (n : Int32) : Int32 := if m_isN σ n then m_ripe σ n else -1
def m_object (σ : St) (n : Int32) : Int32 × St := if m_objBad σ n || m_objLate σ n then (-1, σ) else (σ 26 0 + 1 - 1, m_objS σ n)
def m_judge (σ : St) (o up : Int32) : Int32 × St := if m_jdBad σ o then (0, σ) else (1, m_jdS σ o up)
def m_registrar (σ : St) (t : Int32) : Int32 × St := if m_reBad σ t then (-1, σ) else (σ 28 0 + 1 - 1, m_reS σ t)
def m_bookR (σ : St) (n day wh : Int32) : Int32 × St := if decide (0 < m_book σ n day wh) || m_boBad σ n day wh then (m_book σ n day wh, σ) else (0, m_boS σ n day wh)
def m_wed (σ : St) (n : Int32) : Int32 × St := if m_weBad σ n then (-1, σ) else (σ 30 0 + 1 - 1, m_weS σ n)
def m_part (σ : St) (p : Int32) : Int32 × St := if m_paBad σ p then (0, σ) else (1, m_paS σ p)
def m_correct (σ : St) (e f v : Int32) : Int32 × St := if m_coBad σ e f v then (0, σ) else (1, m_coS σ e f v)
/-! what the reference's numbers keep to -/
def okP (σ : St) (x : Int32) : Prop := 0 ≤ x.toInt ∧ x.toInt < (σ 11 0).toInt
def okPN (σ : St) (x : Int32) : Prop := x = -1 ∨ okP σ x
def bnd (x : Int32) (n : Int) : Prop := 0 ≤ x.toInt ∧ x.toInt ≤ n
def InvM (σ : St) : Prop :=
  (bnd (σ 0 0) 20000 ∧ bnd (σ 2 0) 60 ∧ bnd (σ 11 0) 40 ∧ bnd (σ 15 0) 200 ∧ bnd (σ 23 0) 60 ∧ bnd (σ 26 0) 60 ∧ bnd (σ 28 0) 6 ∧ bnd (σ 30 0) 60 ∧ bnd (σ 35 0) 100)
  ∧ (∀ i, i < nn σ 11 → okPN σ (σ 6 i) ∧ okPN σ (σ 7 i) ∧ okPN σ (σ 10 i))
  ∧ (∀ i, i < nn σ 23 → okP σ (σ 17 i) ∧ okP σ (σ 18 i) ∧ bnd (σ 19 i) 20000)
  ∧ (∀ i, i < nn σ 30 → okP σ (σ (200 + i) 5) ∧ okP σ (σ (200 + i) 6))
