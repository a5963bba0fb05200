/-! ONE MORE IN A LIST: the call of add, and the picture behind it -/
theorem at_lt {E : EV} {a : Nat} {c : va_E} {H : Heap} (h : va_at E.1 vwCl (a, c) H) : a < H.size := by
  rcases c with ⟨c1, c2, c3⟩ | ⟨c1, c2⟩
  · exact (Array.getElem?_eq_some_iff.mp (show H[a]? = some _ from h)).1
  · obtain ⟨r, g1, cell, q1, -⟩ := id h
    exact (Array.getElem?_eq_some_iff.mp q1).1
theorem cd_lt {E : EV} {A : Nat → Prop} {σ : St} {L : Nat → Nat → Nat} {H : Heap} {k i : Nat} (h : Cd E A σ L H) (hv : cv σ k i) : L k i < H.size := by
  obtain ⟨g, h⟩ := cd_at h hv
  exact at_lt h
theorem Ct.pre {α : Type} {l : Launch} {E : EV} {y : MethodName} {cc : ByteArray} {nL : Nat} {ret : Option FieldType} {fr lo mc ms : Nat} {A : Nat → Prop} {av : List Value} {P : α → Heap → Prop} {P' : Heap → Prop} {R : α → Option Value → Heap → Prop} {R' : Option Value → Heap → Prop} (hM : ∀ x, Ct l E y cc nL ret fr lo mc ms A av (P x) (R x)) (h : ∀ H, P' H → ¬ A (E.2 11) → (∀ q, H.size ≤ q → A q) → ∃ x, P x H ∧ ∀ v H1, R x v H1 → R' v H1) : Ct l E y cc nL ret fr lo mc ms A av P' R' := by
  intro p e h1 h2 h3 s m args below h4 h5 h6 h7
  obtain ⟨-, cell, -, -, -, hz⟩ := h6.2.2.2.2
  obtain ⟨x, hx, hr⟩ := h s.heap h6.2.1 hz h6.2.2.2.1
  obtain ⟨n, o, a1, a2, a3, ⟨⟨v, a4, a5⟩, a6⟩, a7⟩ := hM x p e h1 h2 h3 s m args below h4 h5 ⟨h6.1, hx, h6.2.2⟩ h7
  exact ⟨n, o, a1, a2, a3, ⟨⟨v, a4, hr v _ a5⟩, a6⟩, a7⟩
def kci (kd : Nat) : Nat := if kd = 20 then 5 else if kd = 21 then 10 else if kd = 22 then 7 else if kd = 23 then 8 else if kd = 24 then 4 else if kd = 25 then 2 else 9
theorem kci_el {kd t0 j : Nat} (h : gKd kd t0 j) : elC (kci kd) := by
  rcases h with ⟨rfl, -, -⟩ | ⟨rfl, -, -⟩ | ⟨rfl, -, -⟩ | ⟨rfl, -, -⟩ | ⟨rfl, -, -⟩ | ⟨rfl, -, -⟩ | ⟨rfl, -, -⟩
  · exact ⟨_, rfl, by decide +kernel⟩
  · exact ⟨_, rfl, by decide +kernel⟩
  · exact ⟨_, rfl, by decide +kernel⟩
  · exact ⟨_, rfl, by decide +kernel⟩
  · exact ⟨_, rfl, by decide +kernel⟩
  · exact ⟨_, rfl, by decide +kernel⟩
  · exact ⟨_, rfl, by decide +kernel⟩
/-- behind add: list j has one more, a -/
def grR (E : EV) (A : Nat → Prop) (σ : St) (L : Nat → Nat → Nat) (j a : Nat) (H0 H : Heap) : Prop :=
  ∃ (md : Int32) (ar cap : Nat), ob E (L 9 j) 0 [.int md, .ref ar, .int (nI (lc σ j + 1))] H ∧ qa E ar cap (fl (lc σ j + 1) (va_up (le_ σ L j) (lc σ j) a)) H ∧ A ar ∧ (lc σ j + 1 ≤ cap ∧ capOK cap) ∧ (H0.size ≤ ar ∨ (cv σ 10 j ∧ ar = L 10 j)) ∧ ∀ q : Nat, q < H0.size → q ≠ L 9 j → (cv σ 10 j → q ≠ L 10 j) → H[q]? = H0[q]?
theorem pap_lt {σ : St} {j i : Nat} (hI : InvM σ) (hK : InvP σ) (hj : j < 6 + nn σ 11) (h6 : 6 ≤ j) (hi : i < lc σ j) : (σ (400 + (j - 6)) i).toNatClampNeg < nn σ 15 := by
  have hp : j - 6 < nn σ 11 := by omega
  have h11 := cnt_le (N := 40) hI.1.2.2.1
  have hP : okP σ (nI (j - 6)) := ok_nI hI.1.2.2.1 hp
  have hx := hK _ hP
  have e6 : (nI (j - 6)).toNatClampNeg = j - 6 := nI_clamp (by omega)
  have elc : lc σ j = (gA σ 94 (nI (j - 6))).toNatClampNeg := by
    have := lc_p (σ := σ) (i := j - 6)
    rw [show 6 + (j - 6) = j by omega] at this
    rw [this]
    unfold gA
    rw [e6]
  rw [elc] at hi
  have h3 := hx.2 (nI i) (okQ_nI hx.1 hi)
  have hm2 : i < 2 ^ 31 := by have := bnd_le (N := 200) hx.1; omega
  unfold gP at h3
  rw [e6, nI_clamp hm2] at h3
  exact ok_lt (t := 15) h3
theorem le_6 {σ : St} {L : Nat → Nat → Nat} {j i : Nat} (h : j < 6) : le_ σ L j i = L (20 + j) i := if_pos h
theorem le_cell {E : EV} {A : Nat → Prop} {σ : St} {L : Nat → Nat → Nat} {H : Heap} {kd t0 j i : Nat} (hkd : gKd kd t0 j) (h : Cd E A σ L H) (hI : InvM σ) (hK : InvP σ) (hj : j < 6 + nn σ 11) (hi : i < lc σ j) : ∃ m, le_ σ L j i = L kd m ∧ cv σ kd m ∧ ∃ fs : List Value, ob E (L kd m) (kci kd) fs H := by
  rcases hkd with ⟨rfl, rfl, rfl⟩ | ⟨rfl, rfl, rfl⟩ | ⟨rfl, rfl, rfl⟩ | ⟨rfl, rfl, rfl⟩ | ⟨rfl, rfl, rfl⟩ | ⟨rfl, rfl, rfl⟩ | ⟨rfl, rfl, hk⟩
  · refine ⟨i, le_6 (by decide), cv_20 hi, fLaw σ i, ?_⟩
    rw [show kci 20 = 5 from rfl]
    exact cd_law h hi
  · refine ⟨i, le_6 (by decide), cv_21 hi, fPer σ L i, ?_⟩
    rw [show kci 21 = 10 from rfl]
    exact cd_per h hi
  · refine ⟨i, le_6 (by decide), cv_22 hi, fNot σ L i, ?_⟩
    rw [show kci 22 = 7 from rfl]
    exact cd_not h hi
  · refine ⟨i, le_6 (by decide), cv_23 hi, fObj σ L i, ?_⟩
    rw [show kci 23 = 8 from rfl]
    exact cd_obj h hi
  · refine ⟨i, le_6 (by decide), cv_24 hi, fEnt σ L i, ?_⟩
    rw [show kci 24 = 4 from rfl]
    exact cd_ent h hi
  · refine ⟨i, le_6 (by decide), cv_25 hi, fCor σ i, ?_⟩
    rw [show kci 25 = 2 from rfl]
    exact cd_cor h hi
  · have hp := pap_lt hI hK hj hk hi
    refine ⟨(σ (400 + (j - 6)) i).toNatClampNeg, by unfold le_; rw [if_neg (by omega)], cv_26 hp, fPap σ (σ (400 + (j - 6)) i).toNatClampNeg, ?_⟩
    rw [show kci 26 = 9 from rfl]
    exact cd_pap h hp
theorem x_add (l : Launch) (E : EV) (A : Nat → Prop) (H0 : Heap) (σ : St) (L : Nat → Nat → Nat) (kd t0 j a : Nat) (fs : List Value) : Ct l E yJx4a65c_add_9ea2d cJx4a65c_add_9ea2d 2 (some .boolean) 6 170 1 400 A [.ref (L 9 j), .ref a] (fun H => H = H0 ∧ Cd E A σ L H ∧ InvM σ ∧ InvP σ ∧ gKd kd t0 j ∧ j < 6 + nn σ 11 ∧ lc σ j < 200 ∧ ob E a (kci kd) fs H ∧ ∀ k i, cv σ k i → L k i ≠ a) (fun r H => r = some (.int 1) ∧ grR E A σ L j a H0 H) :=
  Ct.pre (fun (x : Int32 × Nat × Nat) => c_add l E A H0 (L 9 j) x.2.1 (lc σ j) x.2.2 (kci kd) a (le_ σ L j) fs x.1) (fun H h hz hA => by
    obtain ⟨rfl, hC, hI, hK, hkd, hj, hn, ho, hfr⟩ := h
    obtain ⟨md, ar, cap, h1, h2, h3, h4, h5⟩ := cd_lst hC hj
    have hv9 : cv σ 9 j := cv_9 hj
    have hA9 : A (L 9 j) := cd_A hC hv9
    have hal := at_lt ho
    have har : (lc σ j = 0 ∧ ar = E.2 11 ∧ cap = 0) ∨ (cv σ 10 j ∧ ar = L 10 j ∧ cap = L 11 j) := by
      by_cases e : lc σ j = 0
      · rw [if_pos e] at h4 h5; exact Or.inl ⟨e, h4, h5⟩
      · rw [if_neg e] at h4 h5; exact Or.inr ⟨⟨hj, fun _ => e⟩, h4, h5⟩
    refine ⟨(md, ar, cap), ⟨rfl, h1, hA9, h2, h3, kci_el hkd, fun i hi => ?_, ho, hfr 9 j hv9, ?_, ?_⟩, fun v H1 hr => ⟨hr.1, ?_⟩⟩
    · obtain ⟨m, e1, e2, e3⟩ := le_cell hkd hC hI hK hj hi
      rw [e1]
      refine ⟨fun z => ?_, e3⟩
      have := (cd_inj hC e2 hv9 z).1
      have := (gkd_of hkd).2.2.2.2.2.2.2.2.1
      omega
    · rcases har with ⟨-, e, -⟩ | ⟨e1, e2, -⟩
      · show L 9 j ≠ ar
        rw [e]; exact fun z => hz (z ▸ hA9)
      · show L 9 j ≠ ar
        rw [e2]; exact fun z => absurd (cd_inj hC hv9 e1 z).1 (by decide)
    · intro hc
      rcases har with ⟨-, -, e⟩ | ⟨e1, e2, -⟩
      · exact absurd hc (by show ¬ 0 < cap; omega)
      · show a ≠ ar
        rw [e2]; exact fun z => hfr 10 j e1 z.symm
    · obtain ⟨ar', b1, b2, b3, b4, b5, b6⟩ := hr.2
      refine ⟨_, ar', ncap (lc σ j) cap, b1, b2, b3, ⟨b4, ?_⟩, ?_, fun q q1 q2 q3 => b6 q q1 q2 ?_⟩
      · rcases har with ⟨-, -, e⟩ | ⟨e1, -, e2⟩
        · rw [e]; exact Or.inl rfl
        · have hc := cd_cap hC e1
          rw [← e2] at hc
          unfold ncap
          by_cases c0 : cap = 0
          · rw [if_pos c0]; exact Or.inl rfl
          · rw [if_neg c0]
            by_cases c1 : lc σ j = cap
            · rw [if_pos c1]
              have : cap < 200 := by omega
              rcases hc with e | e | e | e | e | e | e | e | e <;> subst e
              · exact Or.inr (Or.inl rfl)
              · exact Or.inr (Or.inr (Or.inl rfl))
              · exact Or.inr (Or.inr (Or.inr (Or.inl rfl)))
              · exact Or.inr (Or.inr (Or.inr (Or.inr (Or.inl rfl))))
              · exact Or.inr (Or.inr (Or.inr (Or.inr (Or.inr (Or.inl rfl)))))
              · exact Or.inr (Or.inr (Or.inr (Or.inr (Or.inr (Or.inr (Or.inl rfl))))))
              · exact Or.inr (Or.inr (Or.inr (Or.inr (Or.inr (Or.inr (Or.inr (Or.inl rfl)))))))
              · exact Or.inr (Or.inr (Or.inr (Or.inr (Or.inr (Or.inr (Or.inr (Or.inr rfl)))))))
              · omega
            · rw [if_neg c1]; exact hc
      · rcases b5 with ⟨z1, z2⟩ | z
        · rcases har with ⟨-, -, e⟩ | ⟨e1, e2, -⟩
          · exact absurd z1 (by show ¬ 0 < cap; omega)
          · exact Or.inr ⟨e1, z2.trans e2⟩
        · exact Or.inl z
      · rcases har with ⟨-, -, e⟩ | ⟨e1, e2, -⟩
        · exact Or.inl e
        · refine Or.inr ?_
          show q ≠ ar
          rw [e2]; exact q3 e1)
section CLOSE
variable {E : EV} {A : Nat → Prop} {σ σ1 : St} {L : Nat → Nat → Nat} {H H1 H2 : Heap} {j kd t0 a b : Nat} {mdb : Int32} {fs : List Value}
theorem cd_close (hkd : gKd kd t0 j) (h : Cd E A σ L H) (hI : InvM σ) (hK : InvP σ) (hJ : InvJ σ) (hj : j < 6 + nn σ 11)
    (hc0 : nn σ1 t0 = nn σ t0 + 1) (hc : ∀ t, (t = 2 ∨ t = 11 ∨ t = 15 ∨ t = 23 ∨ t = 26 ∨ t = 30 ∨ t = 35) → t ≠ t0 → nn σ1 t = nn σ t) (hlc : lc σ1 j = lc σ j + 1)
    (hs : ∀ k i, cv σ k i → ¬ (k = 9 ∧ i = j) → ¬ (k = 10 ∧ i = j) → ¬ (k = 0 ∧ kd = 26) → ∀ u v, rds k i u v → u ≠ 90 → u ≠ 91 → u ≠ 92 → σ1 u v = σ u v)
    (hp : kd = 21 → σ1 94 (nn σ 11) = 0)
    (hpp : 6 ≤ j → (∀ m, m < lc σ j → σ1 (400 + (j - 6)) m = σ (400 + (j - 6)) m) ∧ (σ1 (400 + (j - 6)) (lc σ j)).toNatClampNeg = nn σ t0)
    (hg : grR E A σ L j a H H1) (hAa : A a) (hfa : ∀ k i, cv σ k i → L k i ≠ a) (ho : ob E a (kci kd) fs H)
    (hfs : ∀ L1 : Nat → Nat → Nat, (∀ k i, cv σ k i → ¬ (k = 10 ∧ i = j) → L1 k i = L k i) → (kd = 21 → L1 9 (6 + nn σ 11) = b) → ∀ g, ccont E (gh σ1 g) L1 kd (nn σ t0) = .inr (kci kd, fs))
    (hb : kd = 21 → ob E b 0 [.int mdb, .ref (E.2 11), .int 0] H ∧ A b ∧ (∀ k i, cv σ k i → L k i ≠ b) ∧ a ≠ b)
    (hreg : kd = 26 → ob E (L 0 0) 11 (fReg σ1 L) H2) (h12 : ∀ q : Nat, (kd = 26 → q ≠ L 0 0) → H2[q]? = H1[q]?) :
    ∃ L1, Cd E A σ1 L1 H2 ∧ L1 0 0 = L 0 0 ∧ ∀ k i, cv σ k i → ¬ (k = 10 ∧ i = j) → L1 k i = L k i := by
  obtain ⟨md, ar, cap, b1, b2, b3, b4, b5, b6⟩ := hg
  obtain ⟨g2, g11, g23, g26, g30, g35, g15, g6, hkr, g21⟩ := gkd_of hkd
  have hv0 : cv σ 0 0 := cv_f (by omega)
  have hv9 : cv σ 9 j := cv_9 hj
  have e_old : ∀ k i, cv σ k i → ¬ (k = 10 ∧ i = j) → gL L kd (nn σ t0) a j ar cap (6 + nn σ 11) b k i = L k i := fun k i hv hn => by
    have c := cv_cases hv
    unfold gL
    rw [if_neg, if_neg hn, if_neg (by omega), if_neg (by omega)]
    rintro ⟨rfl, rfl⟩
    rcases hkd with ⟨rfl, rfl, rfl⟩ | ⟨rfl, rfl, rfl⟩ | ⟨rfl, rfl, rfl⟩ | ⟨rfl, rfl, rfl⟩ | ⟨rfl, rfl, rfl⟩ | ⟨rfl, rfl, rfl⟩ | ⟨rfl, rfl, hk⟩ <;> omega
  have e_b : kd = 21 → gL L kd (nn σ t0) a j ar cap (6 + nn σ 11) b 9 (6 + nn σ 11) = b := fun z => by unfold gL; rw [if_neg (by omega), if_neg (by omega), if_neg (by omega), if_pos ⟨z, rfl, rfl⟩]
  have kept : ∀ q : Nat, q < H.size → q ≠ L 9 j → (cv σ 10 j → q ≠ L 10 j) → (kd = 26 → q ≠ L 0 0) → H2[q]? = H[q]? := fun q z1 z2 z3 z4 => (h12 q z4).trans (b6 q z1 z2 z3)
  have n90 : L 9 j ≠ L 0 0 := fun z => absurd (cd_inj h hv9 hv0 z).1 (by decide)
  have nar : ar ≠ L 0 0 := fun z => by
    rcases b5 with w | ⟨w1, w2⟩
    · have := cd_lt h hv0
      omega
    · rw [w2] at z
      exact absurd (cd_inj h w1 hv0 z).1 (by decide)
  have hal := at_lt ho
  refine ⟨gL L kd (nn σ t0) a j ar cap (6 + nn σ 11) b, ?_, e_old 0 0 hv0 (by omega), e_old⟩
  refine cd_grow (md := md) (mdb := mdb) hkd h hI hK hJ hj hc0 hc hlc hs hp (fun z => ⟨(hpp z).1, fun m hm => pap_lt hI hK hj z hm, (hpp z).2⟩) ?_ ?_ b3 b4 ?_ ?_ ?_ hAa hfa ?_ hreg ?_
  · exact b1.kept (h12 _ (fun _ => n90))
  · exact b2.kept (h12 _ (fun _ => nar))
  · intro k i hv hn z
    rcases b5 with w | ⟨w1, w2⟩
    · have := cd_lt h hv
      omega
    · rw [w2] at z
      exact hn (cd_inj h hv w1 z)
  · intro z
    rcases b5 with w | ⟨w1, w2⟩
    · omega
    · exact hfa 10 j w1 (w2 ▸ z.symm)
  · intro g
    rw [hfs _ e_old e_b g]
    exact ho.kept (kept a hal (fun z => hfa 9 j hv9 z.symm) (fun w z => hfa 10 j w z.symm) (fun _ z => hfa 0 0 hv0 z.symm))
  · intro z
    obtain ⟨c1, c2, c3, c4⟩ := hb z
    have hbl := at_lt c1
    refine ⟨c1.kept (kept b hbl (fun z => c3 9 j hv9 z.symm) (fun w z => c3 10 j w z.symm) (fun _ z => c3 0 0 hv0 z.symm)), c2, c3, c4, fun z => ?_⟩
    rcases b5 with w | ⟨w1, w2⟩
    · omega
    · exact c3 10 j w1 (w2 ▸ z)
  · intro k i hv n1 n2 n3
    refine kept _ (cd_lt h hv) (fun z => n1 (cd_inj h hv hv9 z)) (fun w z => n2 (cd_inj h hv w z)) (fun w z => n3 ⟨(cd_inj h hv hv0 z).1, w⟩)
end CLOSE
