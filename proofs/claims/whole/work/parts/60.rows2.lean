/-! NEW ARRAYS -/
section NEWA
variable {p : Program} {l : Launch} {e : Env} {R : Room} {s : State} {m : MethodId} {args : Array Value} {below : List Frame} {meth : Method} {c : Code} {H : Heap} {locs : List Loc} {cells slots : Nat} {Q : State → Prop} {E : EV}
variable {cc : ByteArray} {pc : Nat} {ls : Array Slot} {rest : List Value} {A : Nat → Prop} {a : Nat} {H0 : Heap}
theorem nw_newi (hx : p.tables.exec = Jvm.exec) (hb : c.code = cc) (hu : ∀ w ∈ uw, w.before args s = true) (hE : evK E s) (harr : Cond.arrayClass .int ∈ uw) (hS : va_S A H0 H locs) {n : Int32} {N : Nat} (hn : ¬ n < 0) (hN : n.toNatClampNeg = N) (hbytes : N * 4 ≤ 536870912) (hcells : cells + 1 ≤ R.cells) (hslots : slots + N ≤ R.slots) (hdg : decode cc pc = .ok (.newarray .int, 2))
    (kk : ∀ (H1 : Heap), ia E H.size N (fun _ => 0) H1 → H1.size = H.size + 1 → (∀ q : Nat, q < H.size → H1[q]? = H[q]?) → va_S A H0 H1 locs → W p l e R s m args below meth c H1 locs (cells + 1) (slots + N) Q (F0 m (pc + 2) ls (.ref H.size :: rest))) : W p l e R s m args below meth c H locs cells slots Q (F0 m pc ls (.int n :: rest)) := by
  refine va_newaK (atype := .int) hx hb (hu _ harr) rfl hdg rfl hn hN hbytes hcells hslots rfl fun H1 cA e1 z1 o1 hAr hNm => ?_
  have r4 : s.vm.findClass ("[" ++ (FieldType.int).toString) = some (E.2 0) := (hE.1.2 0 (E.2 0, .int) rfl).2
  have hcA : cA = E.2 0 := Option.some.inj (hNm.symm.trans r4)
  subst hcA
  exact kk H1 (by show H1[H.size]? = some (vp_cell _ _); rw [vp_cell_i]; exact e1) z1 o1 ⟨Nat.le_trans hS.1 (by omega), fun x g1 g2 => (o1 x (Nat.lt_of_lt_of_le g1 hS.1)).trans (hS.2.1 x g1 g2), hS.2.2⟩
theorem nw_newl (hx : p.tables.exec = Jvm.exec) (hb : c.code = cc) (hu : ∀ w ∈ uw, w.before args s = true) (hE : evK E s) (harr : Cond.arrayClass .long ∈ uw) (hS : va_S A H0 H locs) {n : Int32} {N : Nat} (hn : ¬ n < 0) (hN : n.toNatClampNeg = N) (hbytes : N * 8 ≤ 536870912) (hcells : cells + 1 ≤ R.cells) (hslots : slots + N ≤ R.slots) (hdg : decode cc pc = .ok (.newarray .long, 2))
    (kk : ∀ (H1 : Heap), la E H.size N (fun _ => 0) H1 → H1.size = H.size + 1 → (∀ q : Nat, q < H.size → H1[q]? = H[q]?) → va_S A H0 H1 locs → W p l e R s m args below meth c H1 locs (cells + 1) (slots + N) Q (F0 m (pc + 2) ls (.ref H.size :: rest))) : W p l e R s m args below meth c H locs cells slots Q (F0 m pc ls (.int n :: rest)) := by
  refine va_newaK (atype := .long) hx hb (hu _ harr) rfl hdg rfl hn hN hbytes hcells hslots rfl fun H1 cA e1 z1 o1 hAr hNm => ?_
  have r4 : s.vm.findClass ("[" ++ (FieldType.long).toString) = some (E.2 1) := (hE.1.2 1 (E.2 1, .long) rfl).2
  have hcA : cA = E.2 1 := Option.some.inj (hNm.symm.trans r4)
  subst hcA
  exact kk H1 (by show H1[H.size]? = some (vp_cell _ _); rw [vp_cell_l]; exact e1) z1 o1 ⟨Nat.le_trans hS.1 (by omega), fun x g1 g2 => (o1 x (Nat.lt_of_lt_of_le g1 hS.1)).trans (hS.2.1 x g1 g2), hS.2.2⟩
theorem nw_newz (hx : p.tables.exec = Jvm.exec) (hb : c.code = cc) (hu : ∀ w ∈ uw, w.before args s = true) (hE : evK E s) (harr : Cond.arrayClass .boolean ∈ uw) (hS : va_S A H0 H locs) {n : Int32} {N : Nat} (hn : ¬ n < 0) (hN : n.toNatClampNeg = N) (hbytes : N * 1 ≤ 536870912) (hcells : cells + 1 ≤ R.cells) (hslots : slots + N ≤ R.slots) (hdg : decode cc pc = .ok (.newarray .boolean, 2))
    (kk : ∀ (H1 : Heap), za E H.size N (fun _ => 0) H1 → H1.size = H.size + 1 → (∀ q : Nat, q < H.size → H1[q]? = H[q]?) → va_S A H0 H1 locs → W p l e R s m args below meth c H1 locs (cells + 1) (slots + N) Q (F0 m (pc + 2) ls (.ref H.size :: rest))) : W p l e R s m args below meth c H locs cells slots Q (F0 m pc ls (.int n :: rest)) := by
  refine va_newaK (atype := .boolean) hx hb (hu _ harr) rfl hdg rfl hn hN hbytes hcells hslots rfl fun H1 cA e1 z1 o1 hAr hNm => ?_
  have r4 : s.vm.findClass ("[" ++ (FieldType.boolean).toString) = some (E.2 2) := (hE.1.2 2 (E.2 2, .boolean) rfl).2
  have hcA : cA = E.2 2 := Option.some.inj (hNm.symm.trans r4)
  subst hcA
  exact kk H1 (by show H1[H.size]? = some (vp_cell _ _); rw [vp_cell_i]; exact e1) z1 o1 ⟨Nat.le_trans hS.1 (by omega), fun x g1 g2 => (o1 x (Nat.lt_of_lt_of_le g1 hS.1)).trans (hS.2.1 x g1 g2), hS.2.2⟩
/-- new int[N][K]: the outer one, behind it the rows -/
theorem nw_mna {own : String} {index : Nat} (hx : p.tables.exec = Jvm.exec) (hb : c.code = cc) (hown : s.vm.findClass own = some m.cls) (hu : ∀ w ∈ uw, w.before args s = true) (hE : evK E s) (hl : Cond.classLink own index "[[I" ∈ uw) (hover : aoA s) (harr : Cond.arrayClass .int ∈ uw) (hS : va_S A H0 H locs) {n k : Int32} {N K : Nat} (hn : ¬ n < 0) (hk : ¬ k < 0) (hN : n.toNatClampNeg = N) (hM : k.toNatClampNeg = K) (hb1 : N * 4 ≤ 536870912) (hb2 : K * 4 ≤ 536870912) (hcells : cells + (1 + N) ≤ R.cells) (hslots : slots + (N + N * K) ≤ R.slots) (hdg : decode cc pc = .ok (.multianewarray index 2, 4))
    (kk : ∀ (H1 : Heap), ra E H.size N (fun i => if i < N then some (H.size + 1 + i) else none) H1 → (∀ i, i < N → ia E (H.size + 1 + i) K (fun _ => 0) H1) → H1.size = H.size + 1 + N → (∀ q : Nat, q < H.size → H1[q]? = H[q]?) → va_S A H0 H1 locs → W p l e R s m args below meth c H1 locs (cells + 1 + N) (slots + N + N * K) Q (F0 m (pc + 4) ls (.ref H.size :: rest))) : W p l e R s m args below meth c H locs cells slots Q (F0 m pc ls (.int k :: .int n :: rest)) := by
  subst hN
  subst hM
  intro T hT Xs
  subst hT
  obtain ⟨cO, cI, U, fO, fI, hU, step⟩ := g_make Xs hx hown (hu _ hl) hover (hu _ harr) (ls := ls) (rest := rest) (by rw [hb]; exact hdg) hn hk hb1 hb2 hcells hslots
  have r4 : s.vm.findClass ("[" ++ (FieldType.array .int).toString) = some (E.2 4) := (hE.1.2 4 (E.2 4, .array .int) rfl).2
  have s4 : s.vm.findClass ("[" ++ (FieldType.int).toString) = some (E.2 0) := (hE.1.2 0 (E.2 0, .int) rfl).2
  have e1 : cO = E.2 4 := Option.some.inj (fO.symm.trans r4)
  have e2 : cI = E.2 0 := Option.some.inj (fI.symm.trans s4)
  subst e1
  subst e2
  obtain ⟨X', z, o, old, rows⟩ := hU
  obtain ⟨t, a1, b1⟩ := kk U.heap (by show U.heap[T.heap.size]? = some (vp_cell _ _); rw [vp_cell_q]; exact o) (fun j hj => by show U.heap[T.heap.size + 1 + j]? = some (vp_cell _ _); rw [vp_cell_i]; exact rows j hj) z old ⟨Nat.le_trans hS.1 (by omega), fun x g1 g2 => (old x (Nat.lt_of_lt_of_le g1 hS.1)).trans (hS.2.1 x g1 g2), hS.2.2⟩ U rfl X'
  exact ⟨t, step t a1, b1⟩
end NEWA
/-! THE CLASS'S PICTURE AT ITS BEGINNING -/
def s0 : St := fun _ _ => 0
def L0 (a b1 b2 b3 b4 b5 b6 b7 b8 c0 c1 c2 c3 c4 c5 : Nat) : Nat → Nat → Nat := fun k i => if k = 0 then a else if k = 1 then b1 else if k = 2 then b2 else if k = 3 then b3 else if k = 4 then b4 else if k = 5 then b5 else if k = 6 then b6 else if k = 7 then b7 else if k = 8 then b8 else if i = 0 then c0 else if i = 1 then c1 else if i = 2 then c2 else if i = 3 then c3 else if i = 4 then c4 else c5
theorem fb0 (w b : Nat) : fb s0 w b = false := by unfold fb s0; simp
theorem pk0 : pk s0 = fun _ => 0 := by
  funext w
  unfold pk
  have : ∀ n, bitsN (fb s0 w) n = 0 := fun n => by
    induction n with
    | zero => rfl
    | succ n ih => rw [bitsN, ih, fb0]; rfl
  rw [this]; rfl
theorem cv0 {k i : Nat} (h : cv s0 k i) : (k = 0 ∧ i = 0) ∨ (k = 1 ∧ i = 0) ∨ (k = 2 ∧ i = 0) ∨ (k = 3 ∧ i = 0) ∨ (k = 4 ∧ i = 0) ∨ (k = 5 ∧ i = 0) ∨ (k = 6 ∧ i = 0) ∨ (k = 7 ∧ i = 0) ∨ (k = 8 ∧ i = 0) ∨ (k = 9 ∧ (i = 0 ∨ i = 1 ∨ i = 2 ∨ i = 3 ∨ i = 4 ∨ i = 5)) := by
  have n0 : ∀ t, nn s0 t = 0 := fun t => rfl
  have c := cv_cases h
  have h2 := h.2
  rw [n0, n0, n0, n0, n0, n0, n0] at c
  by_cases e : k = 10
  · have hi : i < 6 := by omega
    exfalso
    apply h2 e
    rcases lc_lt6 (σ := s0) hi with ⟨-, z⟩ | ⟨-, z⟩ | ⟨-, z⟩ | ⟨-, z⟩ | ⟨-, z⟩ | ⟨-, z⟩ <;> rw [z, n0]
  · rcases c with ⟨c1, c2⟩ | ⟨c1, c2⟩ | c | c | c | c | c | c | c | c
    · have : k = 0 ∨ k = 1 ∨ k = 2 ∨ k = 3 ∨ k = 4 ∨ k = 5 ∨ k = 6 ∨ k = 7 ∨ k = 8 := by omega
      rcases this with z | z | z | z | z | z | z | z | z <;> simp [z, c2]
    · have : i = 0 ∨ i = 1 ∨ i = 2 ∨ i = 3 ∨ i = 4 ∨ i = 5 := by omega
      simp [c1, this]
    all_goals omega
theorem cd_init {E : EV} {A : Nat → Prop} {H : Heap} {a b1 b2 b3 b4 b5 b6 b7 b8 c0 c1 c2 c3 c4 c5 : Nat} {L : Nat → Nat → Nat} (hL : L = L0 a b1 b2 b3 b4 b5 b6 b7 b8 c0 c1 c2 c3 c4 c5)
    (o1 : a < b1) (o2 : b1 < b2) (o3 : b2 < b3) (o4 : b3 < b4) (o5 : b4 < c0) (o6 : c0 < b5) (o7 : b5 < c1) (o8 : c1 < c2) (o9 : c2 < c3) (o10 : c3 < c4) (o11 : c4 < c5) (o12 : c5 < b6) (o13 : b6 < b7) (o14 : b7 < b8)
    (a0 : A a) (a1 : A b1) (a2 : A b2) (a3 : A b3) (a4 : A b4) (a5 : A b5) (a6 : A b6) (a7 : A b7) (a8 : A b8) (d0 : A c0) (d1 : A c1) (d2 : A c2) (d3 : A c3) (d4 : A c4) (d5 : A c5)
    (h0 : ob E a 11 [.int 0, .int 0, .int 0, .ref b1, .ref b2, .ref b4, .ref c1, .ref c2, .ref c3, .ref c4, .ref c5, .ref b6] H) (h1 : ia E b1 6 (fun _ => 0) H) (h2 : ob E b2 1 [.ref b3] H) (h3 : la E b3 313 (fun _ => 0) H) (h4 : ob E b4 6 [.ref c0, .ref b5] H) (h5 : ob E b5 5 [.int (-1), .int (-1), .int 0, .int 0, .int 0, .int 0, .int 1, .int 0] H) (h6 : ob E b6 3 [.ref b7, .ref b8] H) (h7 : ia E b7 10 (fun _ => 0) H) (h8 : ia E b8 60 (fun _ => 0) H)
    (g0 : ob E c0 0 [.int 0, .ref (E.2 11), .int 0] H) (g1 : ob E c1 0 [.int 0, .ref (E.2 11), .int 0] H) (g2 : ob E c2 0 [.int 0, .ref (E.2 11), .int 0] H) (g3 : ob E c3 0 [.int 0, .ref (E.2 11), .int 0] H) (g4 : ob E c4 0 [.int 0, .ref (E.2 11), .int 0] H) (g5 : ob E c5 0 [.int 0, .ref (E.2 11), .int 0] H) : Cd E A s0 L H := by
  subst hL
  have hg : gh s0 (fun _ _ => 0) = s0 := by
    funext t
    unfold gh s0
    split <;> rfl
  refine ⟨fun _ _ => 0, ?_⟩
  rw [hg]
  refine ⟨fun k i hk => ?_, fun k i k' i' hk hk' e => ?_, fun k i hk => ?_, fun j hj => ?_⟩
  · rcases cv0 hk with ⟨rfl, rfl⟩ | ⟨rfl, rfl⟩ | ⟨rfl, rfl⟩ | ⟨rfl, rfl⟩ | ⟨rfl, rfl⟩ | ⟨rfl, rfl⟩ | ⟨rfl, rfl⟩ | ⟨rfl, rfl⟩ | ⟨rfl, rfl⟩ | ⟨rfl, rfl | rfl | rfl | rfl | rfl | rfl⟩
    · exact h0
    · exact h1
    · exact h2
    · show la E b3 313 (pk s0) H
      rw [pk0]; exact h3
    · exact h4
    · exact h5
    · exact h6
    · exact h7
    · exact h8
    · exact g0
    · exact g1
    · exact g2
    · exact g3
    · exact g4
    · exact g5
  · rcases cv0 hk with ⟨rfl, rfl⟩ | ⟨rfl, rfl⟩ | ⟨rfl, rfl⟩ | ⟨rfl, rfl⟩ | ⟨rfl, rfl⟩ | ⟨rfl, rfl⟩ | ⟨rfl, rfl⟩ | ⟨rfl, rfl⟩ | ⟨rfl, rfl⟩ | ⟨rfl, rfl | rfl | rfl | rfl | rfl | rfl⟩ <;> rcases cv0 hk' with ⟨rfl, rfl⟩ | ⟨rfl, rfl⟩ | ⟨rfl, rfl⟩ | ⟨rfl, rfl⟩ | ⟨rfl, rfl⟩ | ⟨rfl, rfl⟩ | ⟨rfl, rfl⟩ | ⟨rfl, rfl⟩ | ⟨rfl, rfl⟩ | ⟨rfl, rfl | rfl | rfl | rfl | rfl | rfl⟩ <;> first | exact ⟨rfl, rfl⟩ | (exfalso; simp only [L0] at e; simp at e; omega)
  · rcases cv0 hk with ⟨rfl, rfl⟩ | ⟨rfl, rfl⟩ | ⟨rfl, rfl⟩ | ⟨rfl, rfl⟩ | ⟨rfl, rfl⟩ | ⟨rfl, rfl⟩ | ⟨rfl, rfl⟩ | ⟨rfl, rfl⟩ | ⟨rfl, rfl⟩ | ⟨rfl, rfl | rfl | rfl | rfl | rfl | rfl⟩ <;> assumption
  · have := cv0 hj
    omega
theorem inv0 : Inv s0 := by
  have n0 : ∀ t, nn s0 t = 0 := fun t => rfl
  have b0 : ∀ (N : Int), 0 ≤ N → bnd (s0 0 0) N := fun N hN => ⟨Int.le_refl _, hN⟩
  have noP : ∀ x, ¬ okP s0 x := fun x h => by
    have h1 := h.1
    have h2 : x.toInt < 0 := h.2
    omega
  refine ⟨⟨⟨b0 _ (by decide), b0 _ (by decide), b0 _ (by decide), b0 _ (by decide), b0 _ (by decide), b0 _ (by decide), b0 _ (by decide), b0 _ (by decide), b0 _ (by decide)⟩, fun i hi => absurd hi (Nat.not_lt_zero i), fun i hi => absurd hi (Nat.not_lt_zero i), fun i hi => absurd hi (Nat.not_lt_zero i)⟩, fun i hi => absurd hi (Nat.not_lt_zero i), fun x hx => absurd hx (noP x), ⟨fun i hi => absurd hi (Nat.not_lt_zero i), fun i hi => absurd hi (Nat.not_lt_zero i)⟩, ⟨fun _ _ => rfl, fun _ _ => rfl⟩, fun x hx => absurd hx (noP x), ⟨fun x hx => absurd hx (noP x), fun k hk => absurd hk (Nat.not_lt_zero k)⟩, fun i hi => absurd hi (Nat.not_lt_zero i), fun i hi => absurd hi (Nat.not_lt_zero i), fun _ _ => Or.inl rfl, rfl, fun i hi => absurd hi (Nat.not_lt_zero i), ⟨fun i hi => absurd hi (Nat.not_lt_zero i), fun i j hi => absurd hi (Nat.not_lt_zero i)⟩⟩
