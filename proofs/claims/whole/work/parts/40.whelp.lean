/-! HELPERS OF THE CONSTRUCTORS AND THE CHANGING CALLS -/
theorem nar_q {C : String} {r : Option Nat} : narrow (.object C) (va_rf r) = va_rf r := by cases r <;> rfl
theorem fit_q {C : String} {r : Option Nat} : fits (.object C) (va_rf r) = true := by cases r <;> rfl
section W40
variable {p : Program} {l : Launch} {e : Env} {R : Room} {s : State} {m : MethodId} {args : Array Value} {below : List Frame} {meth : Method} {c : Code} {H : Heap} {locs : List Loc} {cells slots : Nat} {Q : State → Prop}
variable {cc : ByteArray} {pc : Nat} {ls : Array Slot} {rest : List Value}
theorem ld_q {i : Nat} {r : Option Nat} (hx : p.tables.exec = Jvm.exec) (hb : c.code = cc) (hdg : decode cc pc = .ok (.aload i, 2)) (hl : ls[i]? = some (.val (va_rf r)))
    (kk : W p l e R s m args below meth c H locs cells slots Q (F0 m (pc + 2) ls (va_rf r :: rest))) : W p l e R s m args below meth c H locs cells slots Q (F0 m pc ls rest) := by
  cases r with
  | none => exact lv_aloadN hx hb hdg hl kk
  | some x => exact lv_aload hx hb hdg hl kk
end W40
def df0 : List Value := [.int 0, .null, .int 0]
theorem dfl0 : ∀ j, j < 3 → defaultValue (tyJx4a65c j) = vp_V df0 j := by
  intro j hj
  have h : j = 0 ∨ j = 1 ∨ j = 2 := by omega
  rcases h with rfl | rfl | rfl <;> rfl
def df1 : List Value := [.null]
theorem dfl1 : ∀ j, j < 1 → defaultValue (tyX0 j) = vp_V df1 j := by
  intro j hj
  have h : j = 0 := by omega
  subst h; rfl
def df2 : List Value := [.int 0, .int 0, .int 0, .int 0]
theorem dfl2 : ∀ j, j < 4 → defaultValue (tyX1 j) = vp_V df2 j := by
  intro j hj
  have h : j = 0 ∨ j = 1 ∨ j = 2 ∨ j = 3 := by omega
  rcases h with rfl | rfl | rfl | rfl <;> rfl
def df3 : List Value := [.null, .null]
theorem dfl3 : ∀ j, j < 2 → defaultValue (tyX2 j) = vp_V df3 j := by
  intro j hj
  have h : j = 0 ∨ j = 1 := by omega
  rcases h with rfl | rfl <;> rfl
def df4 : List Value := [.null, .int 0, .int 0, .int 0, .int 0, .int 0]
theorem dfl4 : ∀ j, j < 6 → defaultValue (tyX3 j) = vp_V df4 j := by
  intro j hj
  have h : j = 0 ∨ j = 1 ∨ j = 2 ∨ j = 3 ∨ j = 4 ∨ j = 5 := by omega
  rcases h with rfl | rfl | rfl | rfl | rfl | rfl <;> rfl
def df5 : List Value := [.int 0, .int 0, .int 0, .int 0, .int 0, .int 0, .int 0, .int 0]
theorem dfl5 : ∀ j, j < 8 → defaultValue (tyX4 j) = vp_V df5 j := by
  intro j hj
  have h : j = 0 ∨ j = 1 ∨ j = 2 ∨ j = 3 ∨ j = 4 ∨ j = 5 ∨ j = 6 ∨ j = 7 := by omega
  rcases h with rfl | rfl | rfl | rfl | rfl | rfl | rfl | rfl <;> rfl
def df6 : List Value := [.null, .null]
theorem dfl6 : ∀ j, j < 2 → defaultValue (tyX5 j) = vp_V df6 j := by
  intro j hj
  have h : j = 0 ∨ j = 1 := by omega
  rcases h with rfl | rfl <;> rfl
def df7 : List Value := [.int 0, .null, .null, .int 0, .int 0, .int 0, .int 0, .int 0]
theorem dfl7 : ∀ j, j < 8 → defaultValue (tyX6 j) = vp_V df7 j := by
  intro j hj
  have h : j = 0 ∨ j = 1 ∨ j = 2 ∨ j = 3 ∨ j = 4 ∨ j = 5 ∨ j = 6 ∨ j = 7 := by omega
  rcases h with rfl | rfl | rfl | rfl | rfl | rfl | rfl | rfl <;> rfl
def df8 : List Value := [.null, .int 0]
theorem dfl8 : ∀ j, j < 2 → defaultValue (tyX7 j) = vp_V df8 j := by
  intro j hj
  have h : j = 0 ∨ j = 1 := by omega
  rcases h with rfl | rfl <;> rfl
def df9 : List Value := [.int 0, .int 0]
theorem dfl9 : ∀ j, j < 2 → defaultValue (tyX8 j) = vp_V df9 j := by
  intro j hj
  have h : j = 0 ∨ j = 1 := by omega
  rcases h with rfl | rfl <;> rfl
def df10 : List Value := [.int 0, .int 0, .int 0, .int 0, .int 0, .null, .null, .null, .null]
theorem dfl10 : ∀ j, j < 9 → defaultValue (tyX9 j) = vp_V df10 j := by
  intro j hj
  have h : j = 0 ∨ j = 1 ∨ j = 2 ∨ j = 3 ∨ j = 4 ∨ j = 5 ∨ j = 6 ∨ j = 7 ∨ j = 8 := by omega
  rcases h with rfl | rfl | rfl | rfl | rfl | rfl | rfl | rfl | rfl <;> rfl
def df11 : List Value := [.int 0, .int 0, .int 0, .null, .null, .null, .null, .null, .null, .null, .null, .null]
theorem dfl11 : ∀ j, j < 12 → defaultValue (tyX10 j) = vp_V df11 j := by
  intro j hj
  have h : j = 0 ∨ j = 1 ∨ j = 2 ∨ j = 3 ∨ j = 4 ∨ j = 5 ∨ j = 6 ∨ j = 7 ∨ j = 8 ∨ j = 9 ∨ j = 10 ∨ j = 11 := by omega
  rcases h with rfl | rfl | rfl | rfl | rfl | rfl | rfl | rfl | rfl | rfl | rfl | rfl <;> rfl
def df12 : List Value := [.int 0, .null, .int 0, .null, .null, .null, .null, .null, .null, .null, .null, .int 0, .null, .null, .null, .int 0, .null, .null, .null, .null, .null, .null, .null, .int 0, .null, .null, .int 0, .null, .int 0, .null, .int 0, .null, .null, .null, .null, .int 0]
theorem dfl12 : ∀ j, j < 36 → defaultValue (tyX11 j) = vp_V df12 j := by
  intro j hj
  have h : j = 0 ∨ j = 1 ∨ j = 2 ∨ j = 3 ∨ j = 4 ∨ j = 5 ∨ j = 6 ∨ j = 7 ∨ j = 8 ∨ j = 9 ∨ j = 10 ∨ j = 11 ∨ j = 12 ∨ j = 13 ∨ j = 14 ∨ j = 15 ∨ j = 16 ∨ j = 17 ∨ j = 18 ∨ j = 19 ∨ j = 20 ∨ j = 21 ∨ j = 22 ∨ j = 23 ∨ j = 24 ∨ j = 25 ∨ j = 26 ∨ j = 27 ∨ j = 28 ∨ j = 29 ∨ j = 30 ∨ j = 31 ∨ j = 32 ∨ j = 33 ∨ j = 34 ∨ j = 35 := by omega
  rcases h with rfl | rfl | rfl | rfl | rfl | rfl | rfl | rfl | rfl | rfl | rfl | rfl | rfl | rfl | rfl | rfl | rfl | rfl | rfl | rfl | rfl | rfl | rfl | rfl | rfl | rfl | rfl | rfl | rfl | rfl | rfl | rfl | rfl | rfl | rfl | rfl <;> rfl
